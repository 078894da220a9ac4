/-! THE FACTS OF THE METHODS, by program (wip/p2/tools/gen17.py) -/
def mm_QM (M : mm_M) (y : MethodName) (b : ByteArray) (ret : Option FieldType) : Prop := y.cls = mm_cn M.1 ∧ plainName y.cls = true ∧ (y.cls ≠ "java/lang/invoke/MethodHandle" ∧ y.cls ≠ "java/lang/invoke/VarHandle") ∧ Jvm.Cond.initialized y.cls ∈ mm_TW ∧
  (∀ w ∈ mm_wsm M y b ret, w ∈ mm_TW) ∧ M.2.1 ≤ 21 ∧ mm_retok M.2.2.1 ret ∧ (M.2.2.1 = 4 → y.name = "<init>") ∧ mm_codeok b M.2.2.2.2
def mm_AllZ (Q : Nat → mm_M → MethodName → ByteArray → Option FieldType → Prop) : Nat → List mm_M → List (MethodName × ByteArray × Option FieldType) → Prop
  | _, [], _ => True
  | _, _, [] => True
  | k, M :: r, x :: r2 => Q k M x.1 x.2.1 x.2.2 ∧ mm_AllZ Q (k + 1) r r2
theorem mm_AllZ_of {Q : Nat → mm_M → MethodName → ByteArray → Option FieldType → Prop} : ∀ {l : List mm_M} {l2 : List (MethodName × ByteArray × Option FieldType)} {k : Nat}, mm_AllZ Q k l l2 → ∀ {i : Nat} {M : mm_M} {y : MethodName} {b : ByteArray} {ret : Option FieldType}, mm_at l i = some M → mm_at l2 i = some (y, b, ret) → Q (k + i) M y b ret
  | [], l2, k, _, i, M, y, b, ret, h, _ => by simp [mm_at] at h
  | _ :: _, [], k, _, i, M, y, b, ret, _, h => by simp [mm_at] at h
  | M0 :: r, x :: r2, k, ⟨h1, h2⟩, 0, M, y, b, ret, e1, e2 => by
    cases e1
    cases e2
    exact h1
  | M0 :: r, x :: r2, k, ⟨h1, h2⟩, i + 1, M, y, b, ret, e1, e2 => by
    have := mm_AllZ_of h2 (i := i) e1 e2
    rw [show k + (i + 1) = k + 1 + i by omega]
    exact this
theorem mm_wsm_in {M : mm_M} {y : MethodName} {b : ByteArray} {ret : Option FieldType} {w0 : Jvm.Cond} (h : mm_wsm M y b ret = w0 :: mm_TW) (h0 : w0 ∈ mm_TW) : ∀ w ∈ mm_wsm M y b ret, w ∈ mm_TW := by
  rw [h]
  intro w hw
  rcases List.mem_cons.mp hw with rfl | hw
  · exact h0
  · exact hw
def mm_PL (own j : Nat) (x : Nat × Nat × Nat × Nat × Nat) : Prop := x.1 < 3 → x.2.1 ≠ 326 ∧ ∃ M y b ret, mm_at mm_prog x.2.1 = some M ∧ mm_at mm_inf x.2.1 = some (y, b, ret) ∧
  (parseMethodDescriptor y.desc).map (fun d => d.parameters.length) = some x.2.2.1 ∧
  ((x.2.2.2.1 = 0 ∧ Jvm.Cond.methodLink (mm_cn own) j y ∈ mm_TW) ∨ (x.2.2.2.1 = 1 ∧ Jvm.Cond.methodLinkNest (mm_cn own) j y RX11 ∈ mm_TW)) ∧
  (x.1 = 0 → Jvm.Cond.static y ∈ mm_TW) ∧ (x.1 ≠ 0 → Jvm.Cond.instanceMethod y ∈ mm_TW) ∧ (x.1 = 1 → Jvm.Cond.selects y.cls y y ∈ mm_TW ∧ ((x.2.2.2.2 = M.1 ∧ x.2.2.2.2 < 13) ∨ (x.2.2.2.2 = 107 ∧ M.1 = 16)) ∧ M.2.2.2.1 = []) ∧ (x.1 = 2 → y.name = "<init>" ∧ M.2.2.2.1 = [] ∧ ret = none) ∧ (x.2.2.2.1 = 1 → M.2.2.2.1 = [])
theorem pn_0 : plainName yX0_init.cls = true := by decide +kernel
theorem cn_0 : yX0_init.cls ≠ "java/lang/invoke/MethodHandle" ∧ yX0_init.cls ≠ "java/lang/invoke/VarHandle" := by decide +kernel
theorem fm_X0_init : mm_QM mmX0_init yX0_init cX0_init none := ⟨rfl, pn_0, cn_0, wd_4, mm_wsm_in rfl wd_50, by decide, Or.inl ⟨Or.inr rfl, rfl⟩, fun _ => rfl, co_X0_init⟩
set_option maxRecDepth 20000 in
theorem mp_X0_init : mm_at mm_prog 0 = some mmX0_init := rfl
set_option maxRecDepth 20000 in
theorem mi_X0_init : mm_at mm_inf 0 = some (yX0_init, cX0_init, none) := rfl
theorem fm_X0_empty : mm_QM mmX0_empty yX0_empty cX0_empty none := ⟨rfl, pn_0, cn_0, wd_4, mm_wsm_in rfl wd_520, by decide, Or.inl ⟨Or.inl rfl, rfl⟩, fun z => absurd z (by decide), co_X0_empty⟩
set_option maxRecDepth 20000 in
theorem mp_X0_empty : mm_at mm_prog 1 = some mmX0_empty := rfl
set_option maxRecDepth 20000 in
theorem mi_X0_empty : mm_at mm_inf 1 = some (yX0_empty, cX0_empty, none) := rfl
theorem fm_X0_addLetter : mm_QM mmX0_addLetter yX0_addLetter cX0_addLetter none := ⟨rfl, pn_0, cn_0, wd_4, mm_wsm_in rfl wd_529, by decide, Or.inl ⟨Or.inl rfl, rfl⟩, fun z => absurd z (by decide), co_X0_addLetter⟩
set_option maxRecDepth 20000 in
theorem mp_X0_addLetter : mm_at mm_prog 2 = some mmX0_addLetter := rfl
set_option maxRecDepth 20000 in
theorem mi_X0_addLetter : mm_at mm_inf 2 = some (yX0_addLetter, cX0_addLetter, none) := rfl
theorem fm_X0_length : mm_QM mmX0_length yX0_length cX0_length (some .int) := ⟨rfl, pn_0, cn_0, wd_4, mm_wsm_in rfl wd_482, by decide, Or.inr (Or.inl ⟨rfl, rfl⟩), fun z => absurd z (by decide), co_X0_length⟩
set_option maxRecDepth 20000 in
theorem mp_X0_length : mm_at mm_prog 3 = some mmX0_length := rfl
set_option maxRecDepth 20000 in
theorem mi_X0_length : mm_at mm_inf 3 = some (yX0_length, cX0_length, (some .int)) := rfl
theorem fm_X0_signAt : mm_QM mmX0_signAt yX0_signAt cX0_signAt (some .int) := ⟨rfl, pn_0, cn_0, wd_4, mm_wsm_in rfl wd_524, by decide, Or.inr (Or.inl ⟨rfl, rfl⟩), fun z => absurd z (by decide), co_X0_signAt⟩
set_option maxRecDepth 20000 in
theorem mp_X0_signAt : mm_at mm_prog 4 = some mmX0_signAt := rfl
set_option maxRecDepth 20000 in
theorem mi_X0_signAt : mm_at mm_inf 4 = some (yX0_signAt, cX0_signAt, (some .int)) := rfl
theorem fm_X0_last : mm_QM mmX0_last yX0_last cX0_last (some .int) := ⟨rfl, pn_0, cn_0, wd_4, mm_wsm_in rfl wd_947, by decide, Or.inr (Or.inl ⟨rfl, rfl⟩), fun z => absurd z (by decide), co_X0_last⟩
set_option maxRecDepth 20000 in
theorem mp_X0_last : mm_at mm_prog 5 = some mmX0_last := rfl
set_option maxRecDepth 20000 in
theorem mi_X0_last : mm_at mm_inf 5 = some (yX0_last, cX0_last, (some .int)) := rfl
theorem fm_X0_isSame : mm_QM mmX0_isSame yX0_isSame cX0_isSame (some .boolean) := ⟨rfl, pn_0, cn_0, wd_4, mm_wsm_in rfl wd_828, by decide, Or.inr (Or.inr (Or.inl ⟨rfl, rfl⟩)), fun z => absurd z (by decide), co_X0_isSame⟩
set_option maxRecDepth 20000 in
theorem mp_X0_isSame : mm_at mm_prog 6 = some mmX0_isSame := rfl
set_option maxRecDepth 20000 in
theorem mi_X0_isSame : mm_at mm_inf 6 = some (yX0_isSame, cX0_isSame, (some .boolean)) := rfl
theorem fm_X0_holds : mm_QM mmX0_holds yX0_holds cX0_holds (some .boolean) := ⟨rfl, pn_0, cn_0, wd_4, mm_wsm_in rfl wd_1049, by decide, Or.inr (Or.inr (Or.inl ⟨rfl, rfl⟩)), fun z => absurd z (by decide), co_X0_holds⟩
set_option maxRecDepth 20000 in
theorem mp_X0_holds : mm_at mm_prog 7 = some mmX0_holds := rfl
set_option maxRecDepth 20000 in
theorem mi_X0_holds : mm_at mm_inf 7 = some (yX0_holds, cX0_holds, (some .boolean)) := rfl
theorem fm_X0_matches : mm_QM mmX0_matches yX0_matches cX0_matches (some .boolean) := ⟨rfl, pn_0, cn_0, wd_4, mm_wsm_in rfl wd_832, by decide, Or.inr (Or.inr (Or.inl ⟨rfl, rfl⟩)), fun z => absurd z (by decide), co_X0_matches⟩
set_option maxRecDepth 20000 in
theorem mp_X0_matches : mm_at mm_prog 8 = some mmX0_matches := rfl
set_option maxRecDepth 20000 in
theorem mi_X0_matches : mm_at mm_inf 8 = some (yX0_matches, cX0_matches, (some .boolean)) := rfl
theorem fm_X0_overlapWith : mm_QM mmX0_overlapWith yX0_overlapWith cX0_overlapWith (some .int) := ⟨rfl, pn_0, cn_0, wd_4, mm_wsm_in rfl wd_941, by decide, Or.inr (Or.inl ⟨rfl, rfl⟩), fun z => absurd z (by decide), co_X0_overlapWith⟩
set_option maxRecDepth 20000 in
theorem mp_X0_overlapWith : mm_at mm_prog 9 = some mmX0_overlapWith := rfl
set_option maxRecDepth 20000 in
theorem mi_X0_overlapWith : mm_at mm_inf 9 = some (yX0_overlapWith, cX0_overlapWith, (some .int)) := rfl
theorem fm_X0_isAnagram : mm_QM mmX0_isAnagram yX0_isAnagram cX0_isAnagram (some .boolean) := ⟨rfl, pn_0, cn_0, wd_4, mm_wsm_in rfl wd_1057, by decide, Or.inr (Or.inr (Or.inl ⟨rfl, rfl⟩)), fun z => absurd z (by decide), co_X0_isAnagram⟩
set_option maxRecDepth 20000 in
theorem mp_X0_isAnagram : mm_at mm_prog 10 = some mmX0_isAnagram := rfl
set_option maxRecDepth 20000 in
theorem mi_X0_isAnagram : mm_at mm_inf 10 = some (yX0_isAnagram, cX0_isAnagram, (some .boolean)) := rfl
theorem fm_X0_howOften : mm_QM mmX0_howOften yX0_howOften cX0_howOften (some .int) := ⟨rfl, pn_0, cn_0, wd_4, mm_wsm_in rfl wd_1061, by decide, Or.inr (Or.inl ⟨rfl, rfl⟩), fun z => absurd z (by decide), co_X0_howOften⟩
set_option maxRecDepth 20000 in
theorem mp_X0_howOften : mm_at mm_prog 11 = some mmX0_howOften := rfl
set_option maxRecDepth 20000 in
theorem mi_X0_howOften : mm_at mm_inf 11 = some (yX0_howOften, cX0_howOften, (some .int)) := rfl
theorem pn_1 : plainName yX1_init.cls = true := by decide +kernel
theorem cn_1 : yX1_init.cls ≠ "java/lang/invoke/MethodHandle" ∧ yX1_init.cls ≠ "java/lang/invoke/VarHandle" := by decide +kernel
theorem fm_X1_init : mm_QM mmX1_init yX1_init cX1_init none := ⟨rfl, pn_1, cn_1, wd_2, mm_wsm_in rfl wd_37, by decide, Or.inl ⟨Or.inr rfl, rfl⟩, fun _ => rfl, co_X1_init⟩
set_option maxRecDepth 20000 in
theorem mp_X1_init : mm_at mm_prog 12 = some mmX1_init := rfl
set_option maxRecDepth 20000 in
theorem mi_X1_init : mm_at mm_inf 12 = some (yX1_init, cX1_init, none) := rfl
theorem fm_X1_forgetAll : mm_QM mmX1_forgetAll yX1_forgetAll cX1_forgetAll none := ⟨rfl, pn_1, cn_1, wd_2, mm_wsm_in rfl wd_684, by decide, Or.inl ⟨Or.inl rfl, rfl⟩, fun z => absurd z (by decide), co_X1_forgetAll⟩
set_option maxRecDepth 20000 in
theorem mp_X1_forgetAll : mm_at mm_prog 13 = some mmX1_forgetAll := rfl
set_option maxRecDepth 20000 in
theorem mi_X1_forgetAll : mm_at mm_inf 13 = some (yX1_forgetAll, cX1_forgetAll, none) := rfl
theorem fm_X1_addHeat : mm_QM mmX1_addHeat yX1_addHeat cX1_addHeat none := ⟨rfl, pn_1, cn_1, wd_2, mm_wsm_in rfl wd_864, by decide, Or.inl ⟨Or.inl rfl, rfl⟩, fun z => absurd z (by decide), co_X1_addHeat⟩
set_option maxRecDepth 20000 in
theorem mp_X1_addHeat : mm_at mm_prog 14 = some mmX1_addHeat := rfl
set_option maxRecDepth 20000 in
theorem mi_X1_addHeat : mm_at mm_inf 14 = some (yX1_addHeat, cX1_addHeat, none) := rfl
theorem fm_X1_heatOf : mm_QM mmX1_heatOf yX1_heatOf cX1_heatOf (some .int) := ⟨rfl, pn_1, cn_1, wd_2, mm_wsm_in rfl wd_428, by decide, Or.inr (Or.inl ⟨rfl, rfl⟩), fun z => absurd z (by decide), co_X1_heatOf⟩
set_option maxRecDepth 20000 in
theorem mp_X1_heatOf : mm_at mm_prog 15 = some mmX1_heatOf := rfl
set_option maxRecDepth 20000 in
theorem mi_X1_heatOf : mm_at mm_inf 15 = some (yX1_heatOf, cX1_heatOf, (some .int)) := rfl
theorem fm_X1_fullOf : mm_QM mmX1_fullOf yX1_fullOf cX1_fullOf (some .int) := ⟨rfl, pn_1, cn_1, wd_2, mm_wsm_in rfl wd_474, by decide, Or.inr (Or.inl ⟨rfl, rfl⟩), fun z => absurd z (by decide), co_X1_fullOf⟩
set_option maxRecDepth 20000 in
theorem mp_X1_fullOf : mm_at mm_prog 16 = some mmX1_fullOf := rfl
set_option maxRecDepth 20000 in
theorem mi_X1_fullOf : mm_at mm_inf 16 = some (yX1_fullOf, cX1_fullOf, (some .int)) := rfl
theorem fm_X1_isFull : mm_QM mmX1_isFull yX1_isFull cX1_isFull (some .boolean) := ⟨rfl, pn_1, cn_1, wd_2, mm_wsm_in rfl wd_989, by decide, Or.inr (Or.inr (Or.inl ⟨rfl, rfl⟩)), fun z => absurd z (by decide), co_X1_isFull⟩
set_option maxRecDepth 20000 in
theorem mp_X1_isFull : mm_at mm_prog 17 = some mmX1_isFull := rfl
set_option maxRecDepth 20000 in
theorem mi_X1_isFull : mm_at mm_inf 17 = some (yX1_isFull, cX1_isFull, (some .boolean)) := rfl
theorem fm_X1_blendSize : mm_QM mmX1_blendSize yX1_blendSize cX1_blendSize (some .int) := ⟨rfl, pn_1, cn_1, wd_2, mm_wsm_in rfl wd_1001, by decide, Or.inr (Or.inl ⟨rfl, rfl⟩), fun z => absurd z (by decide), co_X1_blendSize⟩
set_option maxRecDepth 20000 in
theorem mp_X1_blendSize : mm_at mm_prog 18 = some mmX1_blendSize := rfl
set_option maxRecDepth 20000 in
theorem mi_X1_blendSize : mm_at mm_inf 18 = some (yX1_blendSize, cX1_blendSize, (some .int)) := rfl
theorem fm_X1_blendInto : mm_QM mmX1_blendInto yX1_blendInto cX1_blendInto none := ⟨rfl, pn_1, cn_1, wd_2, mm_wsm_in rfl wd_516, by decide, Or.inl ⟨Or.inl rfl, rfl⟩, fun z => absurd z (by decide), co_X1_blendInto⟩
set_option maxRecDepth 20000 in
theorem mp_X1_blendInto : mm_at mm_prog 19 = some mmX1_blendInto := rfl
set_option maxRecDepth 20000 in
theorem mi_X1_blendInto : mm_at mm_inf 19 = some (yX1_blendInto, cX1_blendInto, none) := rfl
theorem fm_X1_howManyFull : mm_QM mmX1_howManyFull yX1_howManyFull cX1_howManyFull (some .int) := ⟨rfl, pn_1, cn_1, wd_2, mm_wsm_in rfl wd_985, by decide, Or.inr (Or.inl ⟨rfl, rfl⟩), fun z => absurd z (by decide), co_X1_howManyFull⟩
set_option maxRecDepth 20000 in
theorem mp_X1_howManyFull : mm_at mm_prog 20 = some mmX1_howManyFull := rfl
set_option maxRecDepth 20000 in
theorem mi_X1_howManyFull : mm_at mm_inf 20 = some (yX1_howManyFull, cX1_howManyFull, (some .int)) := rfl
theorem fm_X1_lettersOfAll : mm_QM mmX1_lettersOfAll yX1_lettersOfAll cX1_lettersOfAll (some .int) := ⟨rfl, pn_1, cn_1, wd_2, mm_wsm_in rfl wd_997, by decide, Or.inr (Or.inl ⟨rfl, rfl⟩), fun z => absurd z (by decide), co_X1_lettersOfAll⟩
set_option maxRecDepth 20000 in
theorem mp_X1_lettersOfAll : mm_at mm_prog 21 = some mmX1_lettersOfAll := rfl
set_option maxRecDepth 20000 in
theorem mi_X1_lettersOfAll : mm_at mm_inf 21 = some (yX1_lettersOfAll, cX1_lettersOfAll, (some .int)) := rfl
theorem fm_X1_passDay : mm_QM mmX1_passDay yX1_passDay cX1_passDay none := ⟨rfl, pn_1, cn_1, wd_2, mm_wsm_in rfl wd_424, by decide, Or.inl ⟨Or.inl rfl, rfl⟩, fun z => absurd z (by decide), co_X1_passDay⟩
set_option maxRecDepth 20000 in
theorem mp_X1_passDay : mm_at mm_prog 22 = some mmX1_passDay := rfl
set_option maxRecDepth 20000 in
theorem mi_X1_passDay : mm_at mm_inf 22 = some (yX1_passDay, cX1_passDay, none) := rfl
theorem fm_X1_grow : mm_QM mmX1_grow yX1_grow cX1_grow none := ⟨rfl, pn_1, cn_1, wd_2, mm_wsm_in rfl wd_434, by decide, Or.inl ⟨Or.inl rfl, rfl⟩, fun z => absurd z (by decide), co_X1_grow⟩
set_option maxRecDepth 20000 in
theorem mp_X1_grow : mm_at mm_prog 23 = some mmX1_grow := rfl
set_option maxRecDepth 20000 in
theorem mi_X1_grow : mm_at mm_inf 23 = some (yX1_grow, cX1_grow, none) := rfl
theorem pn_2 : plainName yX2_init.cls = true := by decide +kernel
theorem cn_2 : yX2_init.cls ≠ "java/lang/invoke/MethodHandle" ∧ yX2_init.cls ≠ "java/lang/invoke/VarHandle" := by decide +kernel
theorem fm_X2_init : mm_QM mmX2_init yX2_init cX2_init none := ⟨rfl, pn_2, cn_2, wd_11, mm_wsm_in rfl wd_302, by decide, Or.inl ⟨Or.inr rfl, rfl⟩, fun _ => rfl, co_X2_init⟩
set_option maxRecDepth 20000 in
theorem mp_X2_init : mm_at mm_prog 24 = some mmX2_init := rfl
set_option maxRecDepth 20000 in
theorem mi_X2_init : mm_at mm_inf 24 = some (yX2_init, cX2_init, none) := rfl
theorem fm_X2_changes : mm_QM mmX2_changes yX2_changes cX2_changes (some .int) := ⟨rfl, pn_2, cn_2, wd_11, mm_wsm_in rfl wd_534, by decide, Or.inr (Or.inl ⟨rfl, rfl⟩), fun z => absurd z (by decide), co_X2_changes⟩
set_option maxRecDepth 20000 in
theorem mp_X2_changes : mm_at mm_prog 25 = some mmX2_changes := rfl
set_option maxRecDepth 20000 in
theorem mi_X2_changes : mm_at mm_inf 25 = some (yX2_changes, cX2_changes, (some .int)) := rfl
theorem fm_X2_common : mm_QM mmX2_common yX2_common cX2_common (some .int) := ⟨rfl, pn_2, cn_2, wd_11, mm_wsm_in rfl wd_1201, by decide, Or.inr (Or.inl ⟨rfl, rfl⟩), fun z => absurd z (by decide), co_X2_common⟩
set_option maxRecDepth 20000 in
theorem mp_X2_common : mm_at mm_prog 26 = some mmX2_common := rfl
set_option maxRecDepth 20000 in
theorem mi_X2_common : mm_at mm_inf 26 = some (yX2_common, cX2_common, (some .int)) := rfl
theorem pn_3 : plainName yX3_init.cls = true := by decide +kernel
theorem cn_3 : yX3_init.cls ≠ "java/lang/invoke/MethodHandle" ∧ yX3_init.cls ≠ "java/lang/invoke/VarHandle" := by decide +kernel
theorem fm_X3_init : mm_QM mmX3_init yX3_init cX3_init none := ⟨rfl, pn_3, cn_3, wd_12, mm_wsm_in rfl wd_312, by decide, Or.inl ⟨Or.inr rfl, rfl⟩, fun _ => rfl, co_X3_init⟩
set_option maxRecDepth 20000 in
theorem mp_X3_init : mm_at mm_prog 27 = some mmX3_init := rfl
set_option maxRecDepth 20000 in
theorem mi_X3_init : mm_at mm_inf 27 = some (yX3_init, cX3_init, none) := rfl
theorem fm_X3_setCost : mm_QM mmX3_setCost yX3_setCost cX3_setCost none := ⟨rfl, pn_3, cn_3, wd_12, mm_wsm_in rfl wd_543, by decide, Or.inl ⟨Or.inl rfl, rfl⟩, fun z => absurd z (by decide), co_X3_setCost⟩
set_option maxRecDepth 20000 in
theorem mp_X3_setCost : mm_at mm_prog 28 = some mmX3_setCost := rfl
set_option maxRecDepth 20000 in
theorem mi_X3_setCost : mm_at mm_inf 28 = some (yX3_setCost, cX3_setCost, none) := rfl
theorem fm_X3_total : mm_QM mmX3_total yX3_total cX3_total (some .int) := ⟨rfl, pn_3, cn_3, wd_12, mm_wsm_in rfl wd_576, by decide, Or.inr (Or.inl ⟨rfl, rfl⟩), fun z => absurd z (by decide), co_X3_total⟩
set_option maxRecDepth 20000 in
theorem mp_X3_total : mm_at mm_prog 29 = some mmX3_total := rfl
set_option maxRecDepth 20000 in
theorem mi_X3_total : mm_at mm_inf 29 = some (yX3_total, cX3_total, (some .int)) := rfl
theorem fm_X3_partnerOf : mm_QM mmX3_partnerOf yX3_partnerOf cX3_partnerOf (some .int) := ⟨rfl, pn_3, cn_3, wd_12, mm_wsm_in rfl wd_1090, by decide, Or.inr (Or.inl ⟨rfl, rfl⟩), fun z => absurd z (by decide), co_X3_partnerOf⟩
set_option maxRecDepth 20000 in
theorem mp_X3_partnerOf : mm_at mm_prog 30 = some mmX3_partnerOf := rfl
set_option maxRecDepth 20000 in
theorem mi_X3_partnerOf : mm_at mm_inf 30 = some (yX3_partnerOf, cX3_partnerOf, (some .int)) := rfl
theorem fm_X3_find : mm_QM mmX3_find yX3_find cX3_find none := ⟨rfl, pn_3, cn_3, wd_12, mm_wsm_in rfl wd_548, by decide, Or.inl ⟨Or.inl rfl, rfl⟩, fun z => absurd z (by decide), co_X3_find⟩
set_option maxRecDepth 20000 in
theorem mp_X3_find : mm_at mm_prog 31 = some mmX3_find := rfl
set_option maxRecDepth 20000 in
theorem mi_X3_find : mm_at mm_inf 31 = some (yX3_find, cX3_find, none) := rfl
theorem fm_X3_fewestOf : mm_QM mmX3_fewestOf yX3_fewestOf cX3_fewestOf (some .int) := ⟨rfl, pn_3, cn_3, wd_12, mm_wsm_in rfl wd_552, by decide, Or.inr (Or.inl ⟨rfl, rfl⟩), fun z => absurd z (by decide), co_X3_fewestOf⟩
set_option maxRecDepth 20000 in
theorem mp_X3_fewestOf : mm_at mm_prog 32 = some mmX3_fewestOf := rfl
set_option maxRecDepth 20000 in
theorem mi_X3_fewestOf : mm_at mm_inf 32 = some (yX3_fewestOf, cX3_fewestOf, (some .int)) := rfl
theorem fm_X3_withCouple : mm_QM mmX3_withCouple yX3_withCouple cX3_withCouple (some .int) := ⟨rfl, pn_3, cn_3, wd_12, mm_wsm_in rfl wd_567, by decide, Or.inr (Or.inl ⟨rfl, rfl⟩), fun z => absurd z (by decide), co_X3_withCouple⟩
set_option maxRecDepth 20000 in
theorem mp_X3_withCouple : mm_at mm_prog 33 = some mmX3_withCouple := rfl
set_option maxRecDepth 20000 in
theorem mi_X3_withCouple : mm_at mm_inf 33 = some (yX3_withCouple, cX3_withCouple, (some .int)) := rfl
theorem fm_X3_choosePartners : mm_QM mmX3_choosePartners yX3_choosePartners cX3_choosePartners none := ⟨rfl, pn_3, cn_3, wd_12, mm_wsm_in rfl wd_572, by decide, Or.inl ⟨Or.inl rfl, rfl⟩, fun z => absurd z (by decide), co_X3_choosePartners⟩
set_option maxRecDepth 20000 in
theorem mp_X3_choosePartners : mm_at mm_prog 34 = some mmX3_choosePartners := rfl
set_option maxRecDepth 20000 in
theorem mi_X3_choosePartners : mm_at mm_inf 34 = some (yX3_choosePartners, cX3_choosePartners, none) := rfl
theorem pn_4 : plainName yX4_init.cls = true := by decide +kernel
theorem cn_4 : yX4_init.cls ≠ "java/lang/invoke/MethodHandle" ∧ yX4_init.cls ≠ "java/lang/invoke/VarHandle" := by decide +kernel
theorem fm_X4_init : mm_QM mmX4_init yX4_init cX4_init none := ⟨rfl, pn_4, cn_4, wd_8, mm_wsm_in rfl wd_200, by decide, Or.inl ⟨Or.inr rfl, rfl⟩, fun _ => rfl, co_X4_init⟩
set_option maxRecDepth 20000 in
theorem mp_X4_init : mm_at mm_prog 35 = some mmX4_init := rfl
set_option maxRecDepth 20000 in
theorem mi_X4_init : mm_at mm_inf 35 = some (yX4_init, cX4_init, none) := rfl
theorem fm_X4_place : mm_QM mmX4_place yX4_place cX4_place (some .int) := ⟨rfl, pn_4, cn_4, wd_8, mm_wsm_in rfl wd_929, by decide, Or.inr (Or.inl ⟨rfl, rfl⟩), fun z => absurd z (by decide), co_X4_place⟩
set_option maxRecDepth 20000 in
theorem mp_X4_place : mm_at mm_prog 36 = some mmX4_place := rfl
set_option maxRecDepth 20000 in
theorem mi_X4_place : mm_at mm_inf 36 = some (yX4_place, cX4_place, (some .int)) := rfl
theorem fm_X4_faultKind : mm_QM mmX4_faultKind yX4_faultKind cX4_faultKind (some .int) := ⟨rfl, pn_4, cn_4, wd_8, mm_wsm_in rfl wd_933, by decide, Or.inr (Or.inl ⟨rfl, rfl⟩), fun z => absurd z (by decide), co_X4_faultKind⟩
set_option maxRecDepth 20000 in
theorem mp_X4_faultKind : mm_at mm_prog 37 = some mmX4_faultKind := rfl
set_option maxRecDepth 20000 in
theorem mi_X4_faultKind : mm_at mm_inf 37 = some (yX4_faultKind, cX4_faultKind, (some .int)) := rfl
theorem fm_X4_begin : mm_QM mmX4_begin yX4_begin cX4_begin none := ⟨rfl, pn_4, cn_4, wd_8, mm_wsm_in rfl wd_696, by decide, Or.inl ⟨Or.inl rfl, rfl⟩, fun z => absurd z (by decide), co_X4_begin⟩
set_option maxRecDepth 20000 in
theorem mp_X4_begin : mm_at mm_prog 38 = some mmX4_begin := rfl
set_option maxRecDepth 20000 in
theorem mi_X4_begin : mm_at mm_inf 38 = some (yX4_begin, cX4_begin, none) := rfl
theorem fm_X4_goesOn : mm_QM mmX4_goesOn yX4_goesOn cX4_goesOn (some .boolean) := ⟨rfl, pn_4, cn_4, wd_8, mm_wsm_in rfl wd_729, by decide, Or.inr (Or.inr (Or.inl ⟨rfl, rfl⟩)), fun z => absurd z (by decide), co_X4_goesOn⟩
set_option maxRecDepth 20000 in
theorem mp_X4_goesOn : mm_at mm_prog 39 = some mmX4_goesOn := rfl
set_option maxRecDepth 20000 in
theorem mi_X4_goesOn : mm_at mm_inf 39 = some (yX4_goesOn, cX4_goesOn, (some .boolean)) := rfl
theorem fm_X4_blame : mm_QM mmX4_blame yX4_blame cX4_blame (some .boolean) := ⟨rfl, pn_4, cn_4, wd_8, mm_wsm_in rfl wd_806, by decide, Or.inr (Or.inr (Or.inl ⟨rfl, rfl⟩)), fun z => absurd z (by decide), co_X4_blame⟩
set_option maxRecDepth 20000 in
theorem mp_X4_blame : mm_at mm_prog 40 = some mmX4_blame := rfl
set_option maxRecDepth 20000 in
theorem mi_X4_blame : mm_at mm_inf 40 = some (yX4_blame, cX4_blame, (some .boolean)) := rfl
theorem fm_X4_readLine : mm_QM mmX4_readLine yX4_readLine cX4_readLine none := ⟨rfl, pn_4, cn_4, wd_8, mm_wsm_in rfl wd_737, by decide, Or.inl ⟨Or.inl rfl, rfl⟩, fun z => absurd z (by decide), co_X4_readLine⟩
set_option maxRecDepth 20000 in
theorem mp_X4_readLine : mm_at mm_prog 41 = some mmX4_readLine := rfl
set_option maxRecDepth 20000 in
theorem mi_X4_readLine : mm_at mm_inf 41 = some (yX4_readLine, cX4_readLine, none) := rfl
theorem fm_X4_readWord : mm_QM mmX4_readWord yX4_readWord cX4_readWord (some .boolean) := ⟨rfl, pn_4, cn_4, wd_8, mm_wsm_in rfl wd_798, by decide, Or.inr (Or.inr (Or.inl ⟨rfl, rfl⟩)), fun z => absurd z (by decide), co_X4_readWord⟩
set_option maxRecDepth 20000 in
theorem mp_X4_readWord : mm_at mm_prog 42 = some mmX4_readWord := rfl
set_option maxRecDepth 20000 in
theorem mi_X4_readWord : mm_at mm_inf 42 = some (yX4_readWord, cX4_readWord, (some .boolean)) := rfl
theorem fm_X4_readNumber : mm_QM mmX4_readNumber yX4_readNumber cX4_readNumber (some .int) := ⟨rfl, pn_4, cn_4, wd_8, mm_wsm_in rfl wd_836, by decide, Or.inr (Or.inl ⟨rfl, rfl⟩), fun z => absurd z (by decide), co_X4_readNumber⟩
set_option maxRecDepth 20000 in
theorem mp_X4_readNumber : mm_at mm_prog 43 = some mmX4_readNumber := rfl
set_option maxRecDepth 20000 in
theorem mi_X4_readNumber : mm_at mm_inf 43 = some (yX4_readNumber, cX4_readNumber, (some .int)) := rfl
theorem fm_X4_readTrunk : mm_QM mmX4_readTrunk yX4_readTrunk cX4_readTrunk (some .boolean) := ⟨rfl, pn_4, cn_4, wd_8, mm_wsm_in rfl wd_851, by decide, Or.inr (Or.inr (Or.inl ⟨rfl, rfl⟩)), fun z => absurd z (by decide), co_X4_readTrunk⟩
set_option maxRecDepth 20000 in
theorem mp_X4_readTrunk : mm_at mm_prog 44 = some mmX4_readTrunk := rfl
set_option maxRecDepth 20000 in
theorem mi_X4_readTrunk : mm_at mm_inf 44 = some (yX4_readTrunk, cX4_readTrunk, (some .boolean)) := rfl
theorem fm_X4_readHeat : mm_QM mmX4_readHeat yX4_readHeat cX4_readHeat (some .boolean) := ⟨rfl, pn_4, cn_4, wd_8, mm_wsm_in rfl wd_860, by decide, Or.inr (Or.inr (Or.inl ⟨rfl, rfl⟩)), fun z => absurd z (by decide), co_X4_readHeat⟩
set_option maxRecDepth 20000 in
theorem mp_X4_readHeat : mm_at mm_prog 45 = some mmX4_readHeat := rfl
set_option maxRecDepth 20000 in
theorem mi_X4_readHeat : mm_at mm_inf 45 = some (yX4_readHeat, cX4_readHeat, (some .boolean)) := rfl
theorem fm_X4_readGrows : mm_QM mmX4_readGrows yX4_readGrows cX4_readGrows (some .boolean) := ⟨rfl, pn_4, cn_4, wd_8, mm_wsm_in rfl wd_870, by decide, Or.inr (Or.inr (Or.inl ⟨rfl, rfl⟩)), fun z => absurd z (by decide), co_X4_readGrows⟩
set_option maxRecDepth 20000 in
theorem mp_X4_readGrows : mm_at mm_prog 46 = some mmX4_readGrows := rfl
set_option maxRecDepth 20000 in
theorem mi_X4_readGrows : mm_at mm_inf 46 = some (yX4_readGrows, cX4_readGrows, (some .boolean)) := rfl
theorem fm_X4_exprEnds : mm_QM mmX4_exprEnds yX4_exprEnds cX4_exprEnds (some .boolean) := ⟨rfl, pn_4, cn_4, wd_8, mm_wsm_in rfl wd_879, by decide, Or.inr (Or.inr (Or.inl ⟨rfl, rfl⟩)), fun z => absurd z (by decide), co_X4_exprEnds⟩
set_option maxRecDepth 20000 in
theorem mp_X4_exprEnds : mm_at mm_prog 47 = some mmX4_exprEnds := rfl
set_option maxRecDepth 20000 in
theorem mi_X4_exprEnds : mm_at mm_inf 47 = some (yX4_exprEnds, cX4_exprEnds, (some .boolean)) := rfl
theorem fm_X4_readPart : mm_QM mmX4_readPart yX4_readPart cX4_readPart (some .boolean) := ⟨rfl, pn_4, cn_4, wd_8, mm_wsm_in rfl wd_883, by decide, Or.inr (Or.inr (Or.inl ⟨rfl, rfl⟩)), fun z => absurd z (by decide), co_X4_readPart⟩
set_option maxRecDepth 20000 in
theorem mp_X4_readPart : mm_at mm_prog 48 = some mmX4_readPart := rfl
set_option maxRecDepth 20000 in
theorem mi_X4_readPart : mm_at mm_inf 48 = some (yX4_readPart, cX4_readPart, (some .boolean)) := rfl
theorem fm_X4_notsAnew : mm_QM mmX4_notsAnew yX4_notsAnew cX4_notsAnew none := ⟨rfl, pn_4, cn_4, wd_8, mm_wsm_in rfl wd_875, by decide, Or.inl ⟨Or.inl rfl, rfl⟩, fun z => absurd z (by decide), co_X4_notsAnew⟩
set_option maxRecDepth 20000 in
theorem mp_X4_notsAnew : mm_at mm_prog 49 = some mmX4_notsAnew := rfl
set_option maxRecDepth 20000 in
theorem mi_X4_notsAnew : mm_at mm_inf 49 = some (yX4_notsAnew, cX4_notsAnew, none) := rfl
theorem fm_X4_readSign : mm_QM mmX4_readSign yX4_readSign cX4_readSign (some .boolean) := ⟨rfl, pn_4, cn_4, wd_8, mm_wsm_in rfl wd_907, by decide, Or.inr (Or.inr (Or.inl ⟨rfl, rfl⟩)), fun z => absurd z (by decide), co_X4_readSign⟩
set_option maxRecDepth 20000 in
theorem mp_X4_readSign : mm_at mm_prog 50 = some mmX4_readSign := rfl
set_option maxRecDepth 20000 in
theorem mi_X4_readSign : mm_at mm_inf 50 = some (yX4_readSign, cX4_readSign, (some .boolean)) := rfl
theorem fm_X4_openSign : mm_QM mmX4_openSign yX4_openSign cX4_openSign none := ⟨rfl, pn_4, cn_4, wd_8, mm_wsm_in rfl wd_887, by decide, Or.inl ⟨Or.inl rfl, rfl⟩, fun z => absurd z (by decide), co_X4_openSign⟩
set_option maxRecDepth 20000 in
theorem mp_X4_openSign : mm_at mm_prog 51 = some mmX4_openSign := rfl
set_option maxRecDepth 20000 in
theorem mi_X4_openSign : mm_at mm_inf 51 = some (yX4_openSign, cX4_openSign, none) := rfl
theorem fm_X4_lastOpen : mm_QM mmX4_lastOpen yX4_lastOpen cX4_lastOpen (some .int) := ⟨rfl, pn_4, cn_4, wd_8, mm_wsm_in rfl wd_915, by decide, Or.inr (Or.inl ⟨rfl, rfl⟩), fun z => absurd z (by decide), co_X4_lastOpen⟩
set_option maxRecDepth 20000 in
theorem mp_X4_lastOpen : mm_at mm_prog 52 = some mmX4_lastOpen := rfl
set_option maxRecDepth 20000 in
theorem mi_X4_lastOpen : mm_at mm_inf 52 = some (yX4_lastOpen, cX4_lastOpen, (some .int)) := rfl
theorem fm_X4_closeSigns : mm_QM mmX4_closeSigns yX4_closeSigns cX4_closeSigns none := ⟨rfl, pn_4, cn_4, wd_8, mm_wsm_in rfl wd_911, by decide, Or.inl ⟨Or.inl rfl, rfl⟩, fun z => absurd z (by decide), co_X4_closeSigns⟩
set_option maxRecDepth 20000 in
theorem mp_X4_closeSigns : mm_at mm_prog 53 = some mmX4_closeSigns := rfl
set_option maxRecDepth 20000 in
theorem mi_X4_closeSigns : mm_at mm_inf 53 = some (yX4_closeSigns, cX4_closeSigns, none) := rfl
theorem fm_X4_valueOfWord : mm_QM mmX4_valueOfWord yX4_valueOfWord cX4_valueOfWord (some .int) := ⟨rfl, pn_4, cn_4, wd_8, mm_wsm_in rfl wd_893, by decide, Or.inr (Or.inl ⟨rfl, rfl⟩), fun z => absurd z (by decide), co_X4_valueOfWord⟩
set_option maxRecDepth 20000 in
theorem mp_X4_valueOfWord : mm_at mm_prog 54 = some mmX4_valueOfWord := rfl
set_option maxRecDepth 20000 in
theorem mi_X4_valueOfWord : mm_at mm_inf 54 = some (yX4_valueOfWord, cX4_valueOfWord, (some .int)) := rfl
theorem fm_X4_signOfToken : mm_QM mmX4_signOfToken yX4_signOfToken cX4_signOfToken (some .int) := ⟨rfl, pn_4, cn_4, wd_8, mm_wsm_in rfl wd_923, by decide, Or.inr (Or.inl ⟨rfl, rfl⟩), fun z => absurd z (by decide), co_X4_signOfToken⟩
set_option maxRecDepth 20000 in
theorem mp_X4_signOfToken : mm_at mm_prog 55 = some mmX4_signOfToken := rfl
set_option maxRecDepth 20000 in
theorem mi_X4_signOfToken : mm_at mm_inf 55 = some (yX4_signOfToken, cX4_signOfToken, (some .int)) := rfl
theorem fm_X4_rankOf : mm_QM mmX4_rankOf yX4_rankOf cX4_rankOf (some .int) := ⟨rfl, pn_4, cn_4, wd_8, mm_wsm_in rfl wd_919, by decide, Or.inr (Or.inl ⟨rfl, rfl⟩), fun z => absurd z (by decide), co_X4_rankOf⟩
set_option maxRecDepth 20000 in
theorem mp_X4_rankOf : mm_at mm_prog 56 = some mmX4_rankOf := rfl
set_option maxRecDepth 20000 in
theorem mi_X4_rankOf : mm_at mm_inf 56 = some (yX4_rankOf, cX4_rankOf, (some .int)) := rfl
theorem pn_5 : plainName yX5_init.cls = true := by decide +kernel
theorem cn_5 : yX5_init.cls ≠ "java/lang/invoke/MethodHandle" ∧ yX5_init.cls ≠ "java/lang/invoke/VarHandle" := by decide +kernel
theorem fm_X5_init : mm_QM mmX5_init yX5_init cX5_init none := ⟨rfl, pn_5, cn_5, wd_7, mm_wsm_in rfl wd_159, by decide, Or.inl ⟨Or.inr rfl, rfl⟩, fun _ => rfl, co_X5_init⟩
set_option maxRecDepth 20000 in
theorem mp_X5_init : mm_at mm_prog 57 = some mmX5_init := rfl
set_option maxRecDepth 20000 in
theorem mi_X5_init : mm_at mm_inf 57 = some (yX5_init, cX5_init, none) := rfl
theorem fm_X5_clear : mm_QM mmX5_clear yX5_clear cX5_clear none := ⟨rfl, pn_5, cn_5, wd_7, mm_wsm_in rfl wd_692, by decide, Or.inl ⟨Or.inl rfl, rfl⟩, fun z => absurd z (by decide), co_X5_clear⟩
set_option maxRecDepth 20000 in
theorem mp_X5_clear : mm_at mm_prog 58 = some mmX5_clear := rfl
set_option maxRecDepth 20000 in
theorem mi_X5_clear : mm_at mm_inf 58 = some (yX5_clear, cX5_clear, none) := rfl
theorem fm_X5_isTold : mm_QM mmX5_isTold yX5_isTold cX5_isTold (some .boolean) := ⟨rfl, pn_5, cn_5, wd_7, mm_wsm_in rfl wd_438, by decide, Or.inr (Or.inr (Or.inl ⟨rfl, rfl⟩)), fun z => absurd z (by decide), co_X5_isTold⟩
set_option maxRecDepth 20000 in
theorem mp_X5_isTold : mm_at mm_prog 59 = some mmX5_isTold := rfl
set_option maxRecDepth 20000 in
theorem mi_X5_isTold : mm_at mm_inf 59 = some (yX5_isTold, cX5_isTold, (some .boolean)) := rfl
theorem fm_X5_addStep : mm_QM mmX5_addStep yX5_addStep cX5_addStep none := ⟨rfl, pn_5, cn_5, wd_7, mm_wsm_in rfl wd_903, by decide, Or.inl ⟨Or.inl rfl, rfl⟩, fun z => absurd z (by decide), co_X5_addStep⟩
set_option maxRecDepth 20000 in
theorem mp_X5_addStep : mm_at mm_prog 60 = some mmX5_addStep := rfl
set_option maxRecDepth 20000 in
theorem mi_X5_addStep : mm_at mm_inf 60 = some (yX5_addStep, cX5_addStep, none) := rfl
theorem fm_X5_setTrunk : mm_QM mmX5_setTrunk yX5_setTrunk cX5_setTrunk none := ⟨rfl, pn_5, cn_5, wd_7, mm_wsm_in rfl wd_442, by decide, Or.inl ⟨Or.inl rfl, rfl⟩, fun z => absurd z (by decide), co_X5_setTrunk⟩
set_option maxRecDepth 20000 in
theorem mp_X5_setTrunk : mm_at mm_prog 61 = some mmX5_setTrunk := rfl
set_option maxRecDepth 20000 in
theorem mi_X5_setTrunk : mm_at mm_inf 61 = some (yX5_setTrunk, cX5_setTrunk, none) := rfl
theorem fm_X5_setWords : mm_QM mmX5_setWords yX5_setWords cX5_setWords none := ⟨rfl, pn_5, cn_5, wd_7, mm_wsm_in rfl wd_456, by decide, Or.inl ⟨Or.inl rfl, rfl⟩, fun z => absurd z (by decide), co_X5_setWords⟩
set_option maxRecDepth 20000 in
theorem mp_X5_setWords : mm_at mm_prog 62 = some mmX5_setWords := rfl
set_option maxRecDepth 20000 in
theorem mi_X5_setWords : mm_at mm_inf 62 = some (yX5_setWords, cX5_setWords, none) := rfl
theorem fm_X5_worth : mm_QM mmX5_worth yX5_worth cX5_worth (some .int) := ⟨rfl, pn_5, cn_5, wd_7, mm_wsm_in rfl wd_460, by decide, Or.inr (Or.inl ⟨rfl, rfl⟩), fun z => absurd z (by decide), co_X5_worth⟩
set_option maxRecDepth 20000 in
theorem mp_X5_worth : mm_at mm_prog 63 = some mmX5_worth := rfl
set_option maxRecDepth 20000 in
theorem mi_X5_worth : mm_at mm_inf 63 = some (yX5_worth, cX5_worth, (some .int)) := rfl
theorem fm_X5_joined : mm_QM mmX5_joined yX5_joined cX5_joined (some .int) := ⟨rfl, pn_5, cn_5, wd_7, mm_wsm_in rfl wd_464, by decide, Or.inr (Or.inl ⟨rfl, rfl⟩), fun z => absurd z (by decide), co_X5_joined⟩
set_option maxRecDepth 20000 in
theorem mp_X5_joined : mm_at mm_prog 64 = some mmX5_joined := rfl
set_option maxRecDepth 20000 in
theorem mi_X5_joined : mm_at mm_inf 64 = some (yX5_joined, cX5_joined, (some .int)) := rfl
theorem pn_6 : plainName yX6_init.cls = true := by decide +kernel
theorem cn_6 : yX6_init.cls ≠ "java/lang/invoke/MethodHandle" ∧ yX6_init.cls ≠ "java/lang/invoke/VarHandle" := by decide +kernel
theorem fm_X6_init : mm_QM mmX6_init yX6_init cX6_init none := ⟨rfl, pn_6, cn_6, wd_10, mm_wsm_in rfl wd_265, by decide, Or.inl ⟨Or.inr rfl, rfl⟩, fun _ => rfl, co_X6_init⟩
set_option maxRecDepth 20000 in
theorem mp_X6_init : mm_at mm_prog 65 = some mmX6_init := rfl
set_option maxRecDepth 20000 in
theorem mi_X6_init : mm_at mm_inf 65 = some (yX6_init, cX6_init, none) := rfl
theorem fm_X6_takeOver : mm_QM mmX6_takeOver yX6_takeOver cX6_takeOver none := ⟨rfl, pn_6, cn_6, wd_10, mm_wsm_in rfl wd_592, by decide, Or.inl ⟨Or.inl rfl, rfl⟩, fun z => absurd z (by decide), co_X6_takeOver⟩
set_option maxRecDepth 20000 in
theorem mp_X6_takeOver : mm_at mm_prog 66 = some mmX6_takeOver := rfl
set_option maxRecDepth 20000 in
theorem mi_X6_takeOver : mm_at mm_inf 66 = some (yX6_takeOver, cX6_takeOver, none) := rfl
theorem fm_X6_beginWith : mm_QM mmX6_beginWith yX6_beginWith cX6_beginWith none := ⟨rfl, pn_6, cn_6, wd_10, mm_wsm_in rfl wd_971, by decide, Or.inl ⟨Or.inl rfl, rfl⟩, fun z => absurd z (by decide), co_X6_beginWith⟩
set_option maxRecDepth 20000 in
theorem mp_X6_beginWith : mm_at mm_prog 67 = some mmX6_beginWith := rfl
set_option maxRecDepth 20000 in
theorem mi_X6_beginWith : mm_at mm_inf 67 = some (yX6_beginWith, cX6_beginWith, none) := rfl
theorem fm_X6_refuse : mm_QM mmX6_refuse yX6_refuse cX6_refuse (some .int) := ⟨rfl, pn_6, cn_6, wd_10, mm_wsm_in rfl wd_401, by decide, Or.inr (Or.inl ⟨rfl, rfl⟩), fun z => absurd z (by decide), co_X6_refuse⟩
set_option maxRecDepth 20000 in
theorem mp_X6_refuse : mm_at mm_prog 68 = some mmX6_refuse := rfl
set_option maxRecDepth 20000 in
theorem mi_X6_refuse : mm_at mm_inf 68 = some (yX6_refuse, cX6_refuse, (some .int)) := rfl
theorem fm_X6_refusals : mm_QM mmX6_refusals yX6_refusals cX6_refusals (some .int) := ⟨rfl, pn_6, cn_6, wd_10, mm_wsm_in rfl wd_1027, by decide, Or.inr (Or.inl ⟨rfl, rfl⟩), fun z => absurd z (by decide), co_X6_refusals⟩
set_option maxRecDepth 20000 in
theorem mp_X6_refusals : mm_at mm_prog 69 = some mmX6_refusals := rfl
set_option maxRecDepth 20000 in
theorem mi_X6_refusals : mm_at mm_inf 69 = some (yX6_refusals, cX6_refusals, (some .int)) := rfl
theorem fm_X6_actsKept : mm_QM mmX6_actsKept yX6_actsKept cX6_actsKept (some .int) := ⟨rfl, pn_6, cn_6, wd_10, mm_wsm_in rfl wd_490, by decide, Or.inr (Or.inl ⟨rfl, rfl⟩), fun z => absurd z (by decide), co_X6_actsKept⟩
set_option maxRecDepth 20000 in
theorem mp_X6_actsKept : mm_at mm_prog 70 = some mmX6_actsKept := rfl
set_option maxRecDepth 20000 in
theorem mi_X6_actsKept : mm_at mm_inf 70 = some (yX6_actsKept, cX6_actsKept, (some .int)) := rfl
theorem fm_X6_keepAct : mm_QM mmX6_keepAct yX6_keepAct cX6_keepAct none := ⟨rfl, pn_6, cn_6, wd_10, mm_wsm_in rfl wd_411, by decide, Or.inl ⟨Or.inl rfl, rfl⟩, fun z => absurd z (by decide), co_X6_keepAct⟩
set_option maxRecDepth 20000 in
theorem mp_X6_keepAct : mm_at mm_prog 71 = some mmX6_keepAct := rfl
set_option maxRecDepth 20000 in
theorem mi_X6_keepAct : mm_at mm_inf 71 = some (yX6_keepAct, cX6_keepAct, none) := rfl
theorem fm_X6_undoAct : mm_QM mmX6_undoAct yX6_undoAct cX6_undoAct none := ⟨rfl, pn_6, cn_6, wd_10, mm_wsm_in rfl wd_494, by decide, Or.inl ⟨Or.inl rfl, rfl⟩, fun z => absurd z (by decide), co_X6_undoAct⟩
set_option maxRecDepth 20000 in
theorem mp_X6_undoAct : mm_at mm_prog 72 = some mmX6_undoAct := rfl
set_option maxRecDepth 20000 in
theorem mi_X6_undoAct : mm_at mm_inf 72 = some (yX6_undoAct, cX6_undoAct, none) := rfl
theorem fm_X6_seenSize : mm_QM mmX6_seenSize yX6_seenSize cX6_seenSize (some .int) := ⟨rfl, pn_6, cn_6, wd_10, mm_wsm_in rfl wd_1005, by decide, Or.inr (Or.inl ⟨rfl, rfl⟩), fun z => absurd z (by decide), co_X6_seenSize⟩
set_option maxRecDepth 20000 in
theorem mp_X6_seenSize : mm_at mm_prog 73 = some mmX6_seenSize := rfl
set_option maxRecDepth 20000 in
theorem mi_X6_seenSize : mm_at mm_inf 73 = some (yX6_seenSize, cX6_seenSize, (some .int)) := rfl
theorem fm_X6_addSeen : mm_QM mmX6_addSeen yX6_addSeen cX6_addSeen none := ⟨rfl, pn_6, cn_6, wd_10, mm_wsm_in rfl wd_1247, by decide, Or.inl ⟨Or.inl rfl, rfl⟩, fun z => absurd z (by decide), co_X6_addSeen⟩
set_option maxRecDepth 20000 in
theorem mp_X6_addSeen : mm_at mm_prog 74 = some mmX6_addSeen := rfl
set_option maxRecDepth 20000 in
theorem mi_X6_addSeen : mm_at mm_inf 74 = some (yX6_addSeen, cX6_addSeen, none) := rfl
theorem fm_X6_forgetSeen : mm_QM mmX6_forgetSeen yX6_forgetSeen cX6_forgetSeen none := ⟨rfl, pn_6, cn_6, wd_10, mm_wsm_in rfl wd_584, by decide, Or.inl ⟨Or.inl rfl, rfl⟩, fun z => absurd z (by decide), co_X6_forgetSeen⟩
set_option maxRecDepth 20000 in
theorem mp_X6_forgetSeen : mm_at mm_prog 75 = some mmX6_forgetSeen := rfl
set_option maxRecDepth 20000 in
theorem mi_X6_forgetSeen : mm_at mm_inf 75 = some (yX6_forgetSeen, cX6_forgetSeen, none) := rfl
theorem fm_X6_lastSeenDay : mm_QM mmX6_lastSeenDay yX6_lastSeenDay cX6_lastSeenDay (some .int) := ⟨rfl, pn_6, cn_6, wd_10, mm_wsm_in rfl wd_1266, by decide, Or.inr (Or.inl ⟨rfl, rfl⟩), fun z => absurd z (by decide), co_X6_lastSeenDay⟩
set_option maxRecDepth 20000 in
theorem mp_X6_lastSeenDay : mm_at mm_prog 76 = some mmX6_lastSeenDay := rfl
set_option maxRecDepth 20000 in
theorem mi_X6_lastSeenDay : mm_at mm_inf 76 = some (yX6_lastSeenDay, cX6_lastSeenDay, (some .int)) := rfl
theorem fm_X6_agrees : mm_QM mmX6_agrees yX6_agrees cX6_agrees (some .boolean) := ⟨rfl, pn_6, cn_6, wd_10, mm_wsm_in rfl wd_1271, by decide, Or.inr (Or.inr (Or.inl ⟨rfl, rfl⟩)), fun z => absurd z (by decide), co_X6_agrees⟩
set_option maxRecDepth 20000 in
theorem mp_X6_agrees : mm_at mm_prog 77 = some mmX6_agrees := rfl
set_option maxRecDepth 20000 in
theorem mi_X6_agrees : mm_at mm_inf 77 = some (yX6_agrees, cX6_agrees, (some .boolean)) := rfl
theorem pn_7 : plainName yX7_init.cls = true := by decide +kernel
theorem cn_7 : yX7_init.cls ≠ "java/lang/invoke/MethodHandle" ∧ yX7_init.cls ≠ "java/lang/invoke/VarHandle" := by decide +kernel
theorem fm_X7_init : mm_QM mmX7_init yX7_init cX7_init none := ⟨rfl, pn_7, cn_7, wd_9, mm_wsm_in rfl wd_206, by decide, Or.inl ⟨Or.inr rfl, rfl⟩, fun _ => rfl, co_X7_init⟩
set_option maxRecDepth 20000 in
theorem mp_X7_init : mm_at mm_prog 78 = some mmX7_init := rfl
set_option maxRecDepth 20000 in
theorem mi_X7_init : mm_at mm_inf 78 = some (yX7_init, cX7_init, none) := rfl
theorem fm_X7_takeBytes : mm_QM mmX7_takeBytes yX7_takeBytes cX7_takeBytes none := ⟨rfl, pn_7, cn_7, wd_9, mm_wsm_in rfl wd_389, by decide, Or.inl ⟨Or.inl rfl, rfl⟩, fun z => absurd z (by decide), co_X7_takeBytes⟩
set_option maxRecDepth 20000 in
theorem mp_X7_takeBytes : mm_at mm_prog 79 = some mmX7_takeBytes := rfl
set_option maxRecDepth 20000 in
theorem mi_X7_takeBytes : mm_at mm_inf 79 = some (yX7_takeBytes, cX7_takeBytes, none) := rfl
theorem fm_X7_open : mm_QM mmX7_open yX7_open cX7_open none := ⟨rfl, pn_7, cn_7, wd_9, mm_wsm_in rfl wd_700, by decide, Or.inl ⟨Or.inl rfl, rfl⟩, fun z => absurd z (by decide), co_X7_open⟩
set_option maxRecDepth 20000 in
theorem mp_X7_open : mm_at mm_prog 80 = some mmX7_open := rfl
set_option maxRecDepth 20000 in
theorem mi_X7_open : mm_at mm_inf 80 = some (yX7_open, cX7_open, none) := rfl
theorem fm_X7_step : mm_QM mmX7_step yX7_step cX7_step none := ⟨rfl, pn_7, cn_7, wd_9, mm_wsm_in rfl wd_704, by decide, Or.inl ⟨Or.inl rfl, rfl⟩, fun z => absurd z (by decide), co_X7_step⟩
set_option maxRecDepth 20000 in
theorem mp_X7_step : mm_at mm_prog 81 = some mmX7_step := rfl
set_option maxRecDepth 20000 in
theorem mi_X7_step : mm_at mm_inf 81 = some (yX7_step, cX7_step, none) := rfl
theorem fm_X7_stepWord : mm_QM mmX7_stepWord yX7_stepWord cX7_stepWord none := ⟨rfl, pn_7, cn_7, wd_9, mm_wsm_in rfl wd_715, by decide, Or.inl ⟨Or.inl rfl, rfl⟩, fun z => absurd z (by decide), co_X7_stepWord⟩
set_option maxRecDepth 20000 in
theorem mp_X7_stepWord : mm_at mm_prog 82 = some mmX7_stepWord := rfl
set_option maxRecDepth 20000 in
theorem mi_X7_stepWord : mm_at mm_inf 82 = some (yX7_stepWord, cX7_stepWord, none) := rfl
theorem fm_X7_stepNumber : mm_QM mmX7_stepNumber yX7_stepNumber cX7_stepNumber none := ⟨rfl, pn_7, cn_7, wd_9, mm_wsm_in rfl wd_722, by decide, Or.inl ⟨Or.inl rfl, rfl⟩, fun z => absurd z (by decide), co_X7_stepNumber⟩
set_option maxRecDepth 20000 in
theorem mp_X7_stepNumber : mm_at mm_prog 83 = some mmX7_stepNumber := rfl
set_option maxRecDepth 20000 in
theorem mi_X7_stepNumber : mm_at mm_inf 83 = some (yX7_stepNumber, cX7_stepNumber, none) := rfl
theorem fm_X7_byteAt : mm_QM mmX7_byteAt yX7_byteAt cX7_byteAt (some .int) := ⟨rfl, pn_7, cn_7, wd_9, mm_wsm_in rfl wd_708, by decide, Or.inr (Or.inl ⟨rfl, rfl⟩), fun z => absurd z (by decide), co_X7_byteAt⟩
set_option maxRecDepth 20000 in
theorem mp_X7_byteAt : mm_at mm_prog 84 = some mmX7_byteAt := rfl
set_option maxRecDepth 20000 in
theorem mi_X7_byteAt : mm_at mm_inf 84 = some (yX7_byteAt, cX7_byteAt, (some .int)) := rfl
theorem fm_X7_isLetter : mm_QM mmX7_isLetter yX7_isLetter cX7_isLetter (some .boolean) := ⟨rfl, pn_7, cn_7, wd_9, mm_wsm_in rfl wd_711, by decide, Or.inr (Or.inr (Or.inl ⟨rfl, rfl⟩)), fun z => absurd z (by decide), co_X7_isLetter⟩
set_option maxRecDepth 20000 in
theorem mp_X7_isLetter : mm_at mm_prog 85 = some mmX7_isLetter := rfl
set_option maxRecDepth 20000 in
theorem mi_X7_isLetter : mm_at mm_inf 85 = some (yX7_isLetter, cX7_isLetter, (some .boolean)) := rfl
theorem fm_X7_isDigit : mm_QM mmX7_isDigit yX7_isDigit cX7_isDigit (some .boolean) := ⟨rfl, pn_7, cn_7, wd_9, mm_wsm_in rfl wd_718, by decide, Or.inr (Or.inr (Or.inl ⟨rfl, rfl⟩)), fun z => absurd z (by decide), co_X7_isDigit⟩
set_option maxRecDepth 20000 in
theorem mp_X7_isDigit : mm_at mm_prog 86 = some mmX7_isDigit := rfl
set_option maxRecDepth 20000 in
theorem mi_X7_isDigit : mm_at mm_inf 86 = some (yX7_isDigit, cX7_isDigit, (some .boolean)) := rfl
theorem fm_X7_isSign : mm_QM mmX7_isSign yX7_isSign cX7_isSign (some .boolean) := ⟨rfl, pn_7, cn_7, wd_9, mm_wsm_in rfl wd_725, by decide, Or.inr (Or.inr (Or.inl ⟨rfl, rfl⟩)), fun z => absurd z (by decide), co_X7_isSign⟩
set_option maxRecDepth 20000 in
theorem mp_X7_isSign : mm_at mm_prog 87 = some mmX7_isSign := rfl
set_option maxRecDepth 20000 in
theorem mi_X7_isSign : mm_at mm_inf 87 = some (yX7_isSign, cX7_isSign, (some .boolean)) := rfl
theorem fm_X7_kind : mm_QM mmX7_kind yX7_kind cX7_kind (some .int) := ⟨rfl, pn_7, cn_7, wd_9, mm_wsm_in rfl wd_733, by decide, Or.inr (Or.inl ⟨rfl, rfl⟩), fun z => absurd z (by decide), co_X7_kind⟩
set_option maxRecDepth 20000 in
theorem mp_X7_kind : mm_at mm_prog 88 = some mmX7_kind := rfl
set_option maxRecDepth 20000 in
theorem mi_X7_kind : mm_at mm_inf 88 = some (yX7_kind, cX7_kind, (some .int)) := rfl
theorem fm_X7_start : mm_QM mmX7_start yX7_start cX7_start (some .int) := ⟨rfl, pn_7, cn_7, wd_9, mm_wsm_in rfl wd_810, by decide, Or.inr (Or.inl ⟨rfl, rfl⟩), fun z => absurd z (by decide), co_X7_start⟩
set_option maxRecDepth 20000 in
theorem mp_X7_start : mm_at mm_prog 89 = some mmX7_start := rfl
set_option maxRecDepth 20000 in
theorem mi_X7_start : mm_at mm_inf 89 = some (yX7_start, cX7_start, (some .int)) := rfl
theorem fm_X7_tokenSize : mm_QM mmX7_tokenSize yX7_tokenSize cX7_tokenSize (some .int) := ⟨rfl, pn_7, cn_7, wd_9, mm_wsm_in rfl wd_746, by decide, Or.inr (Or.inl ⟨rfl, rfl⟩), fun z => absurd z (by decide), co_X7_tokenSize⟩
set_option maxRecDepth 20000 in
theorem mp_X7_tokenSize : mm_at mm_prog 90 = some mmX7_tokenSize := rfl
set_option maxRecDepth 20000 in
theorem mi_X7_tokenSize : mm_at mm_inf 90 = some (yX7_tokenSize, cX7_tokenSize, (some .int)) := rfl
theorem fm_X7_number : mm_QM mmX7_number yX7_number cX7_number (some .int) := ⟨rfl, pn_7, cn_7, wd_9, mm_wsm_in rfl wd_840, by decide, Or.inr (Or.inl ⟨rfl, rfl⟩), fun z => absurd z (by decide), co_X7_number⟩
set_option maxRecDepth 20000 in
theorem mp_X7_number : mm_at mm_prog 91 = some mmX7_number := rfl
set_option maxRecDepth 20000 in
theorem mi_X7_number : mm_at mm_inf 91 = some (yX7_number, cX7_number, (some .int)) := rfl
theorem fm_X7_spells : mm_QM mmX7_spells yX7_spells cX7_spells (some .boolean) := ⟨rfl, pn_7, cn_7, wd_9, mm_wsm_in rfl wd_742, by decide, Or.inr (Or.inr (Or.inl ⟨rfl, rfl⟩)), fun z => absurd z (by decide), co_X7_spells⟩
set_option maxRecDepth 20000 in
theorem mp_X7_spells : mm_at mm_prog 92 = some mmX7_spells := rfl
set_option maxRecDepth 20000 in
theorem mi_X7_spells : mm_at mm_inf 92 = some (yX7_spells, cX7_spells, (some .boolean)) := rfl
theorem fm_X7_spellInto : mm_QM mmX7_spellInto yX7_spellInto cX7_spellInto none := ⟨rfl, pn_7, cn_7, wd_9, mm_wsm_in rfl wd_817, by decide, Or.inl ⟨Or.inl rfl, rfl⟩, fun z => absurd z (by decide), co_X7_spellInto⟩
set_option maxRecDepth 20000 in
theorem mp_X7_spellInto : mm_at mm_prog 93 = some mmX7_spellInto := rfl
set_option maxRecDepth 20000 in
theorem mi_X7_spellInto : mm_at mm_inf 93 = some (yX7_spellInto, cX7_spellInto, none) := rfl
theorem pn_8 : plainName yX8_init.cls = true := by decide +kernel
theorem cn_8 : yX8_init.cls ≠ "java/lang/invoke/MethodHandle" ∧ yX8_init.cls ≠ "java/lang/invoke/VarHandle" := by decide +kernel
theorem fm_X8_init : mm_QM mmX8_init yX8_init cX8_init none := ⟨rfl, pn_8, cn_8, wd_6, mm_wsm_in rfl wd_102, by decide, Or.inl ⟨Or.inr rfl, rfl⟩, fun _ => rfl, co_X8_init⟩
set_option maxRecDepth 20000 in
theorem mp_X8_init : mm_at mm_prog 94 = some mmX8_init := rfl
set_option maxRecDepth 20000 in
theorem mi_X8_init : mm_at mm_inf 94 = some (yX8_init, cX8_init, none) := rfl
theorem fm_X8_becomeAs : mm_QM mmX8_becomeAs yX8_becomeAs cX8_becomeAs none := ⟨rfl, pn_8, cn_8, wd_6, mm_wsm_in rfl wd_600, by decide, Or.inl ⟨Or.inl rfl, rfl⟩, fun z => absurd z (by decide), co_X8_becomeAs⟩
set_option maxRecDepth 20000 in
theorem mp_X8_becomeAs : mm_at mm_prog 95 = some mmX8_becomeAs := rfl
set_option maxRecDepth 20000 in
theorem mi_X8_becomeAs : mm_at mm_inf 95 = some (yX8_becomeAs, cX8_becomeAs, none) := rfl
theorem fm_X8_turnRound : mm_QM mmX8_turnRound yX8_turnRound cX8_turnRound none := ⟨rfl, pn_8, cn_8, wd_6, mm_wsm_in rfl wd_1117, by decide, Or.inl ⟨Or.inl rfl, rfl⟩, fun z => absurd z (by decide), co_X8_turnRound⟩
set_option maxRecDepth 20000 in
theorem mp_X8_turnRound : mm_at mm_prog 96 = some mmX8_turnRound := rfl
set_option maxRecDepth 20000 in
theorem mi_X8_turnRound : mm_at mm_inf 96 = some (yX8_turnRound, cX8_turnRound, none) := rfl
theorem fm_X8_packIn : mm_QM mmX8_packIn yX8_packIn cX8_packIn none := ⟨rfl, pn_8, cn_8, wd_6, mm_wsm_in rfl wd_1128, by decide, Or.inl ⟨Or.inl rfl, rfl⟩, fun z => absurd z (by decide), co_X8_packIn⟩
set_option maxRecDepth 20000 in
theorem mp_X8_packIn : mm_at mm_prog 97 = some mmX8_packIn := rfl
set_option maxRecDepth 20000 in
theorem mi_X8_packIn : mm_at mm_inf 97 = some (yX8_packIn, cX8_packIn, none) := rfl
theorem pn_9 : plainName yX9_init.cls = true := by decide +kernel
theorem cn_9 : yX9_init.cls ≠ "java/lang/invoke/MethodHandle" ∧ yX9_init.cls ≠ "java/lang/invoke/VarHandle" := by decide +kernel
theorem fm_X9_init : mm_QM mmX9_init yX9_init cX9_init none := ⟨rfl, pn_9, cn_9, wd_5, mm_wsm_in rfl wd_95, by decide, Or.inl ⟨Or.inr rfl, rfl⟩, fun _ => rfl, co_X9_init⟩
set_option maxRecDepth 20000 in
theorem mp_X9_init : mm_at mm_prog 98 = some mmX9_init := rfl
set_option maxRecDepth 20000 in
theorem mi_X9_init : mm_at mm_inf 98 = some (yX9_init, cX9_init, none) := rfl
theorem fm_X9_get : mm_QM mmX9_get yX9_get cX9_get (some (.object "GrownWords$Trunk")) := ⟨rfl, pn_9, cn_9, wd_5, mm_wsm_in rfl wd_420, by decide, Or.inr (Or.inr (Or.inr (Or.inl ⟨rfl, _, rfl, Or.inl ⟨_, rfl⟩⟩))), fun z => absurd z (by decide), co_X9_get⟩
set_option maxRecDepth 20000 in
theorem mp_X9_get : mm_at mm_prog 99 = some mmX9_get := rfl
set_option maxRecDepth 20000 in
theorem mi_X9_get : mm_at mm_inf 99 = some (yX9_get, cX9_get, (some (.object "GrownWords$Trunk"))) := rfl
theorem fm_X9_addTrunk : mm_QM mmX9_addTrunk yX9_addTrunk cX9_addTrunk none := ⟨rfl, pn_9, cn_9, wd_5, mm_wsm_in rfl wd_855, by decide, Or.inl ⟨Or.inl rfl, rfl⟩, fun z => absurd z (by decide), co_X9_addTrunk⟩
set_option maxRecDepth 20000 in
theorem mp_X9_addTrunk : mm_at mm_prog 100 = some mmX9_addTrunk := rfl
set_option maxRecDepth 20000 in
theorem mi_X9_addTrunk : mm_at mm_inf 100 = some (yX9_addTrunk, cX9_addTrunk, none) := rfl
theorem fm_X9_copyAll : mm_QM mmX9_copyAll yX9_copyAll cX9_copyAll none := ⟨rfl, pn_9, cn_9, wd_5, mm_wsm_in rfl wd_596, by decide, Or.inl ⟨Or.inl rfl, rfl⟩, fun z => absurd z (by decide), co_X9_copyAll⟩
set_option maxRecDepth 20000 in
theorem mp_X9_copyAll : mm_at mm_prog 101 = some mmX9_copyAll := rfl
set_option maxRecDepth 20000 in
theorem mi_X9_copyAll : mm_at mm_inf 101 = some (yX9_copyAll, cX9_copyAll, none) := rfl
theorem fm_X9_saveIn : mm_QM mmX9_saveIn yX9_saveIn cX9_saveIn none := ⟨rfl, pn_9, cn_9, wd_5, mm_wsm_in rfl wd_415, by decide, Or.inl ⟨Or.inl rfl, rfl⟩, fun z => absurd z (by decide), co_X9_saveIn⟩
set_option maxRecDepth 20000 in
theorem mp_X9_saveIn : mm_at mm_prog 102 = some mmX9_saveIn := rfl
set_option maxRecDepth 20000 in
theorem mi_X9_saveIn : mm_at mm_inf 102 = some (yX9_saveIn, cX9_saveIn, none) := rfl
theorem fm_X9_takeFrom : mm_QM mmX9_takeFrom yX9_takeFrom cX9_takeFrom none := ⟨rfl, pn_9, cn_9, wd_5, mm_wsm_in rfl wd_498, by decide, Or.inl ⟨Or.inl rfl, rfl⟩, fun z => absurd z (by decide), co_X9_takeFrom⟩
set_option maxRecDepth 20000 in
theorem mp_X9_takeFrom : mm_at mm_prog 103 = some mmX9_takeFrom := rfl
set_option maxRecDepth 20000 in
theorem mi_X9_takeFrom : mm_at mm_inf 103 = some (yX9_takeFrom, cX9_takeFrom, none) := rfl
theorem pn_10 : plainName yX10_init.cls = true := by decide +kernel
theorem cn_10 : yX10_init.cls ≠ "java/lang/invoke/MethodHandle" ∧ yX10_init.cls ≠ "java/lang/invoke/VarHandle" := by decide +kernel
theorem fm_X10_init : mm_QM mmX10_init yX10_init cX10_init none := ⟨rfl, pn_10, cn_10, wd_3, mm_wsm_in rfl wd_43, by decide, Or.inl ⟨Or.inr rfl, rfl⟩, fun _ => rfl, co_X10_init⟩
set_option maxRecDepth 20000 in
theorem mp_X10_init : mm_at mm_prog 104 = some mmX10_init := rfl
set_option maxRecDepth 20000 in
theorem mi_X10_init : mm_at mm_inf 104 = some (yX10_init, cX10_init, none) := rfl
theorem fm_X10_startAnew : mm_QM mmX10_startAnew yX10_startAnew cX10_startAnew none := ⟨rfl, pn_10, cn_10, wd_3, mm_wsm_in rfl wd_688, by decide, Or.inl ⟨Or.inl rfl, rfl⟩, fun z => absurd z (by decide), co_X10_startAnew⟩
set_option maxRecDepth 20000 in
theorem mp_X10_startAnew : mm_at mm_prog 105 = some mmX10_startAnew := rfl
set_option maxRecDepth 20000 in
theorem mi_X10_startAnew : mm_at mm_inf 105 = some (yX10_startAnew, cX10_startAnew, none) := rfl
theorem fm_X10_many : mm_QM mmX10_many yX10_many cX10_many (some .int) := ⟨rfl, pn_10, cn_10, wd_3, mm_wsm_in rfl wd_802, by decide, Or.inr (Or.inl ⟨rfl, rfl⟩), fun z => absurd z (by decide), co_X10_many⟩
set_option maxRecDepth 20000 in
theorem mp_X10_many : mm_at mm_prog 106 = some mmX10_many := rfl
set_option maxRecDepth 20000 in
theorem mi_X10_many : mm_at mm_inf 106 = some (yX10_many, cX10_many, (some .int)) := rfl
theorem fm_X10_of : mm_QM mmX10_of yX10_of cX10_of (some (.object "GrownWords$Letters")) := ⟨rfl, pn_10, cn_10, wd_3, mm_wsm_in rfl wd_478, by decide, Or.inr (Or.inr (Or.inr (Or.inl ⟨rfl, _, rfl, Or.inl ⟨_, rfl⟩⟩))), fun z => absurd z (by decide), co_X10_of⟩
set_option maxRecDepth 20000 in
theorem mp_X10_of : mm_at mm_prog 107 = some mmX10_of := rfl
set_option maxRecDepth 20000 in
theorem mi_X10_of : mm_at mm_inf 107 = some (yX10_of, cX10_of, (some (.object "GrownWords$Letters"))) := rfl
theorem fm_X10_hasAlready : mm_QM mmX10_hasAlready yX10_hasAlready cX10_hasAlready (some .boolean) := ⟨rfl, pn_10, cn_10, wd_3, mm_wsm_in rfl wd_823, by decide, Or.inr (Or.inr (Or.inl ⟨rfl, rfl⟩)), fun z => absurd z (by decide), co_X10_hasAlready⟩
set_option maxRecDepth 20000 in
theorem mp_X10_hasAlready : mm_at mm_prog 108 = some mmX10_hasAlready := rfl
set_option maxRecDepth 20000 in
theorem mi_X10_hasAlready : mm_at mm_inf 108 = some (yX10_hasAlready, cX10_hasAlready, (some .boolean)) := rfl
theorem fm_X10_takeNext : mm_QM mmX10_takeNext yX10_takeNext cX10_takeNext none := ⟨rfl, pn_10, cn_10, wd_3, mm_wsm_in rfl wd_844, by decide, Or.inl ⟨Or.inl rfl, rfl⟩, fun z => absurd z (by decide), co_X10_takeNext⟩
set_option maxRecDepth 20000 in
theorem mp_X10_takeNext : mm_at mm_prog 109 = some mmX10_takeNext := rfl
set_option maxRecDepth 20000 in
theorem mi_X10_takeNext : mm_at mm_inf 109 = some (yX10_takeNext, cX10_takeNext, none) := rfl
theorem fm_X10_firmness : mm_QM mmX10_firmness yX10_firmness cX10_firmness (some .int) := ⟨rfl, pn_10, cn_10, wd_3, mm_wsm_in rfl wd_447, by decide, Or.inr (Or.inl ⟨rfl, rfl⟩), fun z => absurd z (by decide), co_X10_firmness⟩
set_option maxRecDepth 20000 in
theorem mp_X10_firmness : mm_at mm_prog 110 = some mmX10_firmness := rfl
set_option maxRecDepth 20000 in
theorem mi_X10_firmness : mm_at mm_inf 110 = some (yX10_firmness, cX10_firmness, (some .int)) := rfl
theorem fm_X10_overlapOf : mm_QM mmX10_overlapOf yX10_overlapOf cX10_overlapOf (some .int) := ⟨rfl, pn_10, cn_10, wd_3, mm_wsm_in rfl wd_452, by decide, Or.inr (Or.inl ⟨rfl, rfl⟩), fun z => absurd z (by decide), co_X10_overlapOf⟩
set_option maxRecDepth 20000 in
theorem mp_X10_overlapOf : mm_at mm_prog 111 = some mmX10_overlapOf := rfl
set_option maxRecDepth 20000 in
theorem mi_X10_overlapOf : mm_at mm_inf 111 = some (yX10_overlapOf, cX10_overlapOf, (some .int)) := rfl
theorem fm_X10_rowLetters : mm_QM mmX10_rowLetters yX10_rowLetters cX10_rowLetters (some .int) := ⟨rfl, pn_10, cn_10, wd_3, mm_wsm_in rfl wd_1213, by decide, Or.inr (Or.inl ⟨rfl, rfl⟩), fun z => absurd z (by decide), co_X10_rowLetters⟩
set_option maxRecDepth 20000 in
theorem mp_X10_rowLetters : mm_at mm_prog 112 = some mmX10_rowLetters := rfl
set_option maxRecDepth 20000 in
theorem mi_X10_rowLetters : mm_at mm_inf 112 = some (yX10_rowLetters, cX10_rowLetters, (some .int)) := rfl
theorem fm_X10_inRow : mm_QM mmX10_inRow yX10_inRow cX10_inRow (some .int) := ⟨rfl, pn_10, cn_10, wd_3, mm_wsm_in rfl wd_965, by decide, Or.inr (Or.inl ⟨rfl, rfl⟩), fun z => absurd z (by decide), co_X10_inRow⟩
set_option maxRecDepth 20000 in
theorem mp_X10_inRow : mm_at mm_prog 113 = some mmX10_inRow := rfl
set_option maxRecDepth 20000 in
theorem mi_X10_inRow : mm_at mm_inf 113 = some (yX10_inRow, cX10_inRow, (some .int)) := rfl
theorem fm_X10_chainSize : mm_QM mmX10_chainSize yX10_chainSize cX10_chainSize (some .int) := ⟨rfl, pn_10, cn_10, wd_3, mm_wsm_in rfl wd_1225, by decide, Or.inr (Or.inl ⟨rfl, rfl⟩), fun z => absurd z (by decide), co_X10_chainSize⟩
set_option maxRecDepth 20000 in
theorem mp_X10_chainSize : mm_at mm_prog 114 = some mmX10_chainSize := rfl
set_option maxRecDepth 20000 in
theorem mi_X10_chainSize : mm_at mm_inf 114 = some (yX10_chainSize, cX10_chainSize, (some .int)) := rfl
theorem fm_X10_inChain : mm_QM mmX10_inChain yX10_inChain cX10_inChain (some .int) := ⟨rfl, pn_10, cn_10, wd_3, mm_wsm_in rfl wd_1229, by decide, Or.inr (Or.inl ⟨rfl, rfl⟩), fun z => absurd z (by decide), co_X10_inChain⟩
set_option maxRecDepth 20000 in
theorem mp_X10_inChain : mm_at mm_prog 115 = some mmX10_inChain := rfl
set_option maxRecDepth 20000 in
theorem mi_X10_inChain : mm_at mm_inf 115 = some (yX10_inChain, cX10_inChain, (some .int)) := rfl
theorem fm_X10_within : mm_QM mmX10_within yX10_within cX10_within (some .int) := ⟨rfl, pn_10, cn_10, wd_3, mm_wsm_in rfl wd_1045, by decide, Or.inr (Or.inl ⟨rfl, rfl⟩), fun z => absurd z (by decide), co_X10_within⟩
set_option maxRecDepth 20000 in
theorem mp_X10_within : mm_at mm_prog 116 = some mmX10_within := rfl
set_option maxRecDepth 20000 in
theorem mi_X10_within : mm_at mm_inf 116 = some (yX10_within, cX10_within, (some .int)) := rfl
theorem fm_X10_anagrams : mm_QM mmX10_anagrams yX10_anagrams cX10_anagrams (some .int) := ⟨rfl, pn_10, cn_10, wd_3, mm_wsm_in rfl wd_1053, by decide, Or.inr (Or.inl ⟨rfl, rfl⟩), fun z => absurd z (by decide), co_X10_anagrams⟩
set_option maxRecDepth 20000 in
theorem mp_X10_anagrams : mm_at mm_prog 117 = some mmX10_anagrams := rfl
set_option maxRecDepth 20000 in
theorem mi_X10_anagrams : mm_at mm_inf 117 = some (yX10_anagrams, cX10_anagrams, (some .int)) := rfl
theorem fm_X10_settle : mm_QM mmX10_settle yX10_settle cX10_settle none := ⟨rfl, pn_10, cn_10, wd_3, mm_wsm_in rfl wd_937, by decide, Or.inl ⟨Or.inl rfl, rfl⟩, fun z => absurd z (by decide), co_X10_settle⟩
set_option maxRecDepth 20000 in
theorem mp_X10_settle : mm_at mm_prog 118 = some mmX10_settle := rfl
set_option maxRecDepth 20000 in
theorem mi_X10_settle : mm_at mm_inf 118 = some (yX10_settle, cX10_settle, none) := rfl
theorem fm_X10_findOrder : mm_QM mmX10_findOrder yX10_findOrder cX10_findOrder (some .int) := ⟨rfl, pn_10, cn_10, wd_3, mm_wsm_in rfl wd_952, by decide, Or.inr (Or.inl ⟨rfl, rfl⟩), fun z => absurd z (by decide), co_X10_findOrder⟩
set_option maxRecDepth 20000 in
theorem mp_X10_findOrder : mm_at mm_prog 119 = some mmX10_findOrder := rfl
set_option maxRecDepth 20000 in
theorem mi_X10_findOrder : mm_at mm_inf 119 = some (yX10_findOrder, cX10_findOrder, (some .int)) := rfl
theorem fm_X10_fillRoom : mm_QM mmX10_fillRoom yX10_fillRoom cX10_fillRoom none := ⟨rfl, pn_10, cn_10, wd_3, mm_wsm_in rfl wd_956, by decide, Or.inl ⟨Or.inl rfl, rfl⟩, fun z => absurd z (by decide), co_X10_fillRoom⟩
set_option maxRecDepth 20000 in
theorem mp_X10_fillRoom : mm_at mm_prog 120 = some mmX10_fillRoom := rfl
set_option maxRecDepth 20000 in
theorem mi_X10_fillRoom : mm_at mm_inf 120 = some (yX10_fillRoom, cX10_fillRoom, none) := rfl
theorem fm_X10_firstNext : mm_QM mmX10_firstNext yX10_firstNext cX10_firstNext (some .int) := ⟨rfl, pn_10, cn_10, wd_3, mm_wsm_in rfl wd_961, by decide, Or.inr (Or.inl ⟨rfl, rfl⟩), fun z => absurd z (by decide), co_X10_firstNext⟩
set_option maxRecDepth 20000 in
theorem mp_X10_firstNext : mm_at mm_prog 121 = some mmX10_firstNext := rfl
set_option maxRecDepth 20000 in
theorem mi_X10_firstNext : mm_at mm_inf 121 = some (yX10_firstNext, cX10_firstNext, (some .int)) := rfl
theorem pn_11 : plainName yX11_init.cls = true := by decide +kernel
theorem cn_11 : yX11_init.cls ≠ "java/lang/invoke/MethodHandle" ∧ yX11_init.cls ≠ "java/lang/invoke/VarHandle" := by decide +kernel
theorem fm_X11_init : mm_QM mmX11_init yX11_init cX11_init none := ⟨rfl, pn_11, cn_11, wd_1, mm_wsm_in rfl wd_29, by decide, Or.inl ⟨Or.inr rfl, rfl⟩, fun _ => rfl, co_X11_init⟩
set_option maxRecDepth 20000 in
theorem mp_X11_init : mm_at mm_prog 122 = some mmX11_init := rfl
set_option maxRecDepth 20000 in
theorem mi_X11_init : mm_at mm_inf 122 = some (yX11_init, cX11_init, none) := rfl
theorem fm_X11_feed : mm_QM mmX11_feed yX11_feed cX11_feed (some .int) := ⟨rfl, pn_11, cn_11, wd_1, mm_wsm_in rfl wd_385, by decide, Or.inr (Or.inl ⟨rfl, rfl⟩), fun z => absurd z (by decide), co_X11_feed⟩
set_option maxRecDepth 20000 in
theorem mp_X11_feed : mm_at mm_prog 123 = some mmX11_feed := rfl
set_option maxRecDepth 20000 in
theorem mi_X11_feed : mm_at mm_inf 123 = some (yX11_feed, cX11_feed, (some .int)) := rfl
theorem fm_X11_baggage : mm_QM mmX11_baggage yX11_baggage cX11_baggage (some .int) := ⟨rfl, pn_11, cn_11, wd_1, mm_wsm_in rfl wd_615, by decide, Or.inr (Or.inl ⟨rfl, rfl⟩), fun z => absurd z (by decide), co_X11_baggage⟩
set_option maxRecDepth 20000 in
theorem mp_X11_baggage : mm_at mm_prog 124 = some mmX11_baggage := rfl
set_option maxRecDepth 20000 in
theorem mi_X11_baggage : mm_at mm_inf 124 = some (yX11_baggage, cX11_baggage, (some .int)) := rfl
theorem fm_X11_fault : mm_QM mmX11_fault yX11_fault cX11_fault (some .int) := ⟨rfl, pn_11, cn_11, wd_1, mm_wsm_in rfl wd_393, by decide, Or.inr (Or.inl ⟨rfl, rfl⟩), fun z => absurd z (by decide), co_X11_fault⟩
set_option maxRecDepth 20000 in
theorem mp_X11_fault : mm_at mm_prog 125 = some mmX11_fault := rfl
set_option maxRecDepth 20000 in
theorem mi_X11_fault : mm_at mm_inf 125 = some (yX11_fault, cX11_fault, (some .int)) := rfl
theorem fm_X11_count : mm_QM mmX11_count yX11_count cX11_count (some .int) := ⟨rfl, pn_11, cn_11, wd_1, mm_wsm_in rfl wd_979, by decide, Or.inr (Or.inl ⟨rfl, rfl⟩), fun z => absurd z (by decide), co_X11_count⟩
set_option maxRecDepth 20000 in
theorem mp_X11_count : mm_at mm_prog 126 = some mmX11_count := rfl
set_option maxRecDepth 20000 in
theorem mi_X11_count : mm_at mm_inf 126 = some (yX11_count, cX11_count, (some .int)) := rfl
theorem fm_X11_trunkCount : mm_QM mmX11_trunkCount yX11_trunkCount cX11_trunkCount (some .int) := ⟨rfl, pn_11, cn_11, wd_1, mm_wsm_in rfl wd_511, by decide, Or.inr (Or.inl ⟨rfl, rfl⟩), fun z => absurd z (by decide), co_X11_trunkCount⟩
set_option maxRecDepth 20000 in
theorem mp_X11_trunkCount : mm_at mm_prog 127 = some mmX11_trunkCount := rfl
set_option maxRecDepth 20000 in
theorem mi_X11_trunkCount : mm_at mm_inf 127 = some (yX11_trunkCount, cX11_trunkCount, (some .int)) := rfl
theorem fm_X11_treaties : mm_QM mmX11_treaties yX11_treaties cX11_treaties (some .int) := ⟨rfl, pn_11, cn_11, wd_1, mm_wsm_in rfl wd_993, by decide, Or.inr (Or.inl ⟨rfl, rfl⟩), fun z => absurd z (by decide), co_X11_treaties⟩
set_option maxRecDepth 20000 in
theorem mp_X11_treaties : mm_at mm_prog 128 = some mmX11_treaties := rfl
set_option maxRecDepth 20000 in
theorem mi_X11_treaties : mm_at mm_inf 128 = some (yX11_treaties, cX11_treaties, (some .int)) := rfl
theorem fm_X11_word : mm_QM mmX11_word yX11_word cX11_word (some .int) := ⟨rfl, pn_11, cn_11, wd_1, mm_wsm_in rfl wd_1034, by decide, Or.inr (Or.inl ⟨rfl, rfl⟩), fun z => absurd z (by decide), co_X11_word⟩
set_option maxRecDepth 20000 in
theorem mp_X11_word : mm_at mm_prog 129 = some mmX11_word := rfl
set_option maxRecDepth 20000 in
theorem mi_X11_word : mm_at mm_inf 129 = some (yX11_word, cX11_word, (some .int)) := rfl
theorem fm_X11_trunksWith : mm_QM mmX11_trunksWith yX11_trunksWith cX11_trunksWith (some .int) := ⟨rfl, pn_11, cn_11, wd_1, mm_wsm_in rfl wd_1065, by decide, Or.inr (Or.inl ⟨rfl, rfl⟩), fun z => absurd z (by decide), co_X11_trunksWith⟩
set_option maxRecDepth 20000 in
theorem mp_X11_trunksWith : mm_at mm_prog 130 = some mmX11_trunksWith := rfl
set_option maxRecDepth 20000 in
theorem mi_X11_trunksWith : mm_at mm_inf 130 = some (yX11_trunksWith, cX11_trunksWith, (some .int)) := rfl
theorem fm_X11_letter : mm_QM mmX11_letter yX11_letter cX11_letter (some .int) := ⟨rfl, pn_11, cn_11, wd_1, mm_wsm_in rfl wd_1072, by decide, Or.inr (Or.inl ⟨rfl, rfl⟩), fun z => absurd z (by decide), co_X11_letter⟩
set_option maxRecDepth 20000 in
theorem mp_X11_letter : mm_at mm_prog 131 = some mmX11_letter := rfl
set_option maxRecDepth 20000 in
theorem mi_X11_letter : mm_at mm_inf 131 = some (yX11_letter, cX11_letter, (some .int)) := rfl
theorem fm_X11_trunk : mm_QM mmX11_trunk yX11_trunk cX11_trunk (some .int) := ⟨rfl, pn_11, cn_11, wd_1, mm_wsm_in rfl wd_1080, by decide, Or.inr (Or.inl ⟨rfl, rfl⟩), fun z => absurd z (by decide), co_X11_trunk⟩
set_option maxRecDepth 20000 in
theorem mp_X11_trunk : mm_at mm_prog 132 = some mmX11_trunk := rfl
set_option maxRecDepth 20000 in
theorem mi_X11_trunk : mm_at mm_inf 132 = some (yX11_trunk, cX11_trunk, (some .int)) := rfl
theorem fm_X11_days : mm_QM mmX11_days yX11_days cX11_days (some .int) := ⟨rfl, pn_11, cn_11, wd_1, mm_wsm_in rfl wd_397, by decide, Or.inr (Or.inl ⟨rfl, rfl⟩), fun z => absurd z (by decide), co_X11_days⟩
set_option maxRecDepth 20000 in
theorem mp_X11_days : mm_at mm_prog 133 = some mmX11_days := rfl
set_option maxRecDepth 20000 in
theorem mi_X11_days : mm_at mm_inf 133 = some (yX11_days, cX11_days, (some .int)) := rfl
theorem fm_X11_draw : mm_QM mmX11_draw yX11_draw cX11_draw (some .int) := ⟨rfl, pn_11, cn_11, wd_1, mm_wsm_in rfl wd_1097, by decide, Or.inr (Or.inl ⟨rfl, rfl⟩), fun z => absurd z (by decide), co_X11_draw⟩
set_option maxRecDepth 20000 in
theorem mp_X11_draw : mm_at mm_prog 134 = some mmX11_draw := rfl
set_option maxRecDepth 20000 in
theorem mi_X11_draw : mm_at mm_inf 134 = some (yX11_draw, cX11_draw, (some .int)) := rfl
theorem fm_X11_pull : mm_QM mmX11_pull yX11_pull cX11_pull (some .int) := ⟨rfl, pn_11, cn_11, wd_1, mm_wsm_in rfl wd_1104, by decide, Or.inr (Or.inl ⟨rfl, rfl⟩), fun z => absurd z (by decide), co_X11_pull⟩
set_option maxRecDepth 20000 in
theorem mp_X11_pull : mm_at mm_prog 135 = some mmX11_pull := rfl
set_option maxRecDepth 20000 in
theorem mi_X11_pull : mm_at mm_inf 135 = some (yX11_pull, cX11_pull, (some .int)) := rfl
theorem fm_X11_turn : mm_QM mmX11_turn yX11_turn cX11_turn (some .int) := ⟨rfl, pn_11, cn_11, wd_1, mm_wsm_in rfl wd_1113, by decide, Or.inr (Or.inl ⟨rfl, rfl⟩), fun z => absurd z (by decide), co_X11_turn⟩
set_option maxRecDepth 20000 in
theorem mp_X11_turn : mm_at mm_prog 136 = some mmX11_turn := rfl
set_option maxRecDepth 20000 in
theorem mi_X11_turn : mm_at mm_inf 136 = some (yX11_turn, cX11_turn, (some .int)) := rfl
theorem fm_X11_pack : mm_QM mmX11_pack yX11_pack cX11_pack (some .int) := ⟨rfl, pn_11, cn_11, wd_1, mm_wsm_in rfl wd_1124, by decide, Or.inr (Or.inl ⟨rfl, rfl⟩), fun z => absurd z (by decide), co_X11_pack⟩
set_option maxRecDepth 20000 in
theorem mp_X11_pack : mm_at mm_prog 137 = some mmX11_pack := rfl
set_option maxRecDepth 20000 in
theorem mi_X11_pack : mm_at mm_inf 137 = some (yX11_pack, cX11_pack, (some .int)) := rfl
theorem fm_X11_undo : mm_QM mmX11_undo yX11_undo cX11_undo (some .int) := ⟨rfl, pn_11, cn_11, wd_1, mm_wsm_in rfl wd_486, by decide, Or.inr (Or.inl ⟨rfl, rfl⟩), fun z => absurd z (by decide), co_X11_undo⟩
set_option maxRecDepth 20000 in
theorem mp_X11_undo : mm_at mm_prog 138 = some mmX11_undo := rfl
set_option maxRecDepth 20000 in
theorem mi_X11_undo : mm_at mm_inf 138 = some (yX11_undo, cX11_undo, (some .int)) := rfl
theorem fm_X11_then : mm_QM mmX11_then yX11_then cX11_then (some .int) := ⟨rfl, pn_11, cn_11, wd_1, mm_wsm_in rfl wd_1135, by decide, Or.inr (Or.inl ⟨rfl, rfl⟩), fun z => absurd z (by decide), co_X11_then⟩
set_option maxRecDepth 20000 in
theorem mp_X11_then : mm_at mm_prog 139 = some mmX11_then := rfl
set_option maxRecDepth 20000 in
theorem mi_X11_then : mm_at mm_inf 139 = some (yX11_then, cX11_then, (some .int)) := rfl
theorem fm_X11_nearestToBlend : mm_QM mmX11_nearestToBlend yX11_nearestToBlend cX11_nearestToBlend (some .int) := ⟨rfl, pn_11, cn_11, wd_1, mm_wsm_in rfl wd_1152, by decide, Or.inr (Or.inl ⟨rfl, rfl⟩), fun z => absurd z (by decide), co_X11_nearestToBlend⟩
set_option maxRecDepth 20000 in
theorem mp_X11_nearestToBlend : mm_at mm_prog 140 = some mmX11_nearestToBlend := rfl
set_option maxRecDepth 20000 in
theorem mi_X11_nearestToBlend : mm_at mm_inf 140 = some (yX11_nearestToBlend, cX11_nearestToBlend, (some .int)) := rfl
theorem fm_X11_blend : mm_QM mmX11_blend yX11_blend cX11_blend (some .int) := ⟨rfl, pn_11, cn_11, wd_1, mm_wsm_in rfl wd_1159, by decide, Or.inr (Or.inl ⟨rfl, rfl⟩), fun z => absurd z (by decide), co_X11_blend⟩
set_option maxRecDepth 20000 in
theorem mp_X11_blend : mm_at mm_prog 141 = some mmX11_blend := rfl
set_option maxRecDepth 20000 in
theorem mi_X11_blend : mm_at mm_inf 141 = some (yX11_blend, cX11_blend, (some .int)) := rfl
theorem fm_X11_later : mm_QM mmX11_later yX11_later cX11_later (some .int) := ⟨rfl, pn_11, cn_11, wd_1, mm_wsm_in rfl wd_1166, by decide, Or.inr (Or.inl ⟨rfl, rfl⟩), fun z => absurd z (by decide), co_X11_later⟩
set_option maxRecDepth 20000 in
theorem mp_X11_later : mm_at mm_prog 142 = some mmX11_later := rfl
set_option maxRecDepth 20000 in
theorem mi_X11_later : mm_at mm_inf 142 = some (yX11_later, cX11_later, (some .int)) := rfl
theorem fm_X11_full : mm_QM mmX11_full yX11_full cX11_full (some .int) := ⟨rfl, pn_11, cn_11, wd_1, mm_wsm_in rfl wd_1173, by decide, Or.inr (Or.inl ⟨rfl, rfl⟩), fun z => absurd z (by decide), co_X11_full⟩
set_option maxRecDepth 20000 in
theorem mp_X11_full : mm_at mm_prog 143 = some mmX11_full := rfl
set_option maxRecDepth 20000 in
theorem mi_X11_full : mm_at mm_inf 143 = some (yX11_full, cX11_full, (some .int)) := rfl
theorem fm_X11_read : mm_QM mmX11_read yX11_read cX11_read (some .int) := ⟨rfl, pn_11, cn_11, wd_1, mm_wsm_in rfl wd_1180, by decide, Or.inr (Or.inl ⟨rfl, rfl⟩), fun z => absurd z (by decide), co_X11_read⟩
set_option maxRecDepth 20000 in
theorem mp_X11_read : mm_at mm_prog 144 = some mmX11_read := rfl
set_option maxRecDepth 20000 in
theorem mi_X11_read : mm_at mm_inf 144 = some (yX11_read, cX11_read, (some .int)) := rfl
theorem fm_X11_alike : mm_QM mmX11_alike yX11_alike cX11_alike (some .int) := ⟨rfl, pn_11, cn_11, wd_1, mm_wsm_in rfl wd_1188, by decide, Or.inr (Or.inl ⟨rfl, rfl⟩), fun z => absurd z (by decide), co_X11_alike⟩
set_option maxRecDepth 20000 in
theorem mp_X11_alike : mm_at mm_prog 145 = some mmX11_alike := rfl
set_option maxRecDepth 20000 in
theorem mi_X11_alike : mm_at mm_inf 145 = some (yX11_alike, cX11_alike, (some .int)) := rfl
theorem fm_X11_growBy : mm_QM mmX11_growBy yX11_growBy cX11_growBy none := ⟨rfl, pn_11, cn_11, wd_1, mm_wsm_in rfl wd_1147, by decide, Or.inl ⟨Or.inl rfl, rfl⟩, fun z => absurd z (by decide), co_X11_growBy⟩
set_option maxRecDepth 20000 in
theorem mp_X11_growBy : mm_at mm_prog 146 = some mmX11_growBy := rfl
set_option maxRecDepth 20000 in
theorem mi_X11_growBy : mm_at mm_inf 146 = some (yX11_growBy, cX11_growBy, none) := rfl
theorem fm_X11_growProbe : mm_QM mmX11_growProbe yX11_growProbe cX11_growProbe none := ⟨rfl, pn_11, cn_11, wd_1, mm_wsm_in rfl wd_1142, by decide, Or.inl ⟨Or.inl rfl, rfl⟩, fun z => absurd z (by decide), co_X11_growProbe⟩
set_option maxRecDepth 20000 in
theorem mp_X11_growProbe : mm_at mm_prog 147 = some mmX11_growProbe := rfl
set_option maxRecDepth 20000 in
theorem mi_X11_growProbe : mm_at mm_inf 147 = some (yX11_growProbe, cX11_growProbe, none) := rfl
theorem fm_X11_both : mm_QM mmX11_both yX11_both cX11_both (some .int) := ⟨rfl, pn_11, cn_11, wd_1, mm_wsm_in rfl wd_1196, by decide, Or.inr (Or.inl ⟨rfl, rfl⟩), fun z => absurd z (by decide), co_X11_both⟩
set_option maxRecDepth 20000 in
theorem mp_X11_both : mm_at mm_prog 148 = some mmX11_both := rfl
set_option maxRecDepth 20000 in
theorem mi_X11_both : mm_at mm_inf 148 = some (yX11_both, cX11_both, (some .int)) := rfl
theorem fm_X11_row : mm_QM mmX11_row yX11_row cX11_row (some .int) := ⟨rfl, pn_11, cn_11, wd_1, mm_wsm_in rfl wd_1209, by decide, Or.inr (Or.inl ⟨rfl, rfl⟩), fun z => absurd z (by decide), co_X11_row⟩
set_option maxRecDepth 20000 in
theorem mp_X11_row : mm_at mm_prog 149 = some mmX11_row := rfl
set_option maxRecDepth 20000 in
theorem mi_X11_row : mm_at mm_inf 149 = some (yX11_row, cX11_row, (some .int)) := rfl
theorem fm_X11_chain : mm_QM mmX11_chain yX11_chain cX11_chain (some .int) := ⟨rfl, pn_11, cn_11, wd_1, mm_wsm_in rfl wd_1221, by decide, Or.inr (Or.inl ⟨rfl, rfl⟩), fun z => absurd z (by decide), co_X11_chain⟩
set_option maxRecDepth 20000 in
theorem mp_X11_chain : mm_at mm_prog 150 = some mmX11_chain := rfl
set_option maxRecDepth 20000 in
theorem mi_X11_chain : mm_at mm_inf 150 = some (yX11_chain, cX11_chain, (some .int)) := rfl
theorem fm_X11_toDraw : mm_QM mmX11_toDraw yX11_toDraw cX11_toDraw (some .int) := ⟨rfl, pn_11, cn_11, wd_1, mm_wsm_in rfl wd_1236, by decide, Or.inr (Or.inl ⟨rfl, rfl⟩), fun z => absurd z (by decide), co_X11_toDraw⟩
set_option maxRecDepth 20000 in
theorem mp_X11_toDraw : mm_at mm_prog 151 = some mmX11_toDraw := rfl
set_option maxRecDepth 20000 in
theorem mi_X11_toDraw : mm_at mm_inf 151 = some (yX11_toDraw, cX11_toDraw, (some .int)) := rfl
theorem fm_X11_couples : mm_QM mmX11_couples yX11_couples cX11_couples (some .int) := ⟨rfl, pn_11, cn_11, wd_1, mm_wsm_in rfl wd_503, by decide, Or.inr (Or.inl ⟨rfl, rfl⟩), fun z => absurd z (by decide), co_X11_couples⟩
set_option maxRecDepth 20000 in
theorem mp_X11_couples : mm_at mm_prog 152 = some mmX11_couples := rfl
set_option maxRecDepth 20000 in
theorem mi_X11_couples : mm_at mm_inf 152 = some (yX11_couples, cX11_couples, (some .int)) := rfl
theorem fm_X11_findCouples : mm_QM mmX11_findCouples yX11_findCouples cX11_findCouples none := ⟨rfl, pn_11, cn_11, wd_1, mm_wsm_in rfl wd_507, by decide, Or.inl ⟨Or.inl rfl, rfl⟩, fun z => absurd z (by decide), co_X11_findCouples⟩
set_option maxRecDepth 20000 in
theorem mp_X11_findCouples : mm_at mm_prog 153 = some mmX11_findCouples := rfl
set_option maxRecDepth 20000 in
theorem mi_X11_findCouples : mm_at mm_inf 153 = some (yX11_findCouples, cX11_findCouples, none) := rfl
theorem fm_X11_see : mm_QM mmX11_see yX11_see cX11_see (some .int) := ⟨rfl, pn_11, cn_11, wd_1, mm_wsm_in rfl wd_1243, by decide, Or.inr (Or.inl ⟨rfl, rfl⟩), fun z => absurd z (by decide), co_X11_see⟩
set_option maxRecDepth 20000 in
theorem mp_X11_see : mm_at mm_prog 154 = some mmX11_see := rfl
set_option maxRecDepth 20000 in
theorem mi_X11_see : mm_at mm_inf 154 = some (yX11_see, cX11_see, (some .int)) := rfl
theorem fm_X11_loose : mm_QM mmX11_loose yX11_loose cX11_loose (some .int) := ⟨rfl, pn_11, cn_11, wd_1, mm_wsm_in rfl wd_1254, by decide, Or.inr (Or.inl ⟨rfl, rfl⟩), fun z => absurd z (by decide), co_X11_loose⟩
set_option maxRecDepth 20000 in
theorem mp_X11_loose : mm_at mm_prog 155 = some mmX11_loose := rfl
set_option maxRecDepth 20000 in
theorem mi_X11_loose : mm_at mm_inf 155 = some (yX11_loose, cX11_loose, (some .int)) := rfl
theorem fm_X11_look : mm_QM mmX11_look yX11_look cX11_look (some .int) := ⟨rfl, pn_11, cn_11, wd_1, mm_wsm_in rfl wd_1288, by decide, Or.inr (Or.inl ⟨rfl, rfl⟩), fun z => absurd z (by decide), co_X11_look⟩
set_option maxRecDepth 20000 in
theorem mp_X11_look : mm_at mm_prog 156 = some mmX11_look := rfl
set_option maxRecDepth 20000 in
theorem mi_X11_look : mm_at mm_inf 156 = some (yX11_look, cX11_look, (some .int)) := rfl
theorem fm_X11_forget : mm_QM mmX11_forget yX11_forget cX11_forget none := ⟨rfl, pn_11, cn_11, wd_1, mm_wsm_in rfl wd_580, by decide, Or.inl ⟨Or.inl rfl, rfl⟩, fun z => absurd z (by decide), co_X11_forget⟩
set_option maxRecDepth 20000 in
theorem mp_X11_forget : mm_at mm_prog 157 = some mmX11_forget := rfl
set_option maxRecDepth 20000 in
theorem mi_X11_forget : mm_at mm_inf 157 = some (yX11_forget, cX11_forget, none) := rfl
theorem fm_X11_allTrunks : mm_QM mmX11_allTrunks yX11_allTrunks cX11_allTrunks (some .int) := ⟨rfl, pn_11, cn_11, wd_1, mm_wsm_in rfl wd_1275, by decide, Or.inr (Or.inl ⟨rfl, rfl⟩), fun z => absurd z (by decide), co_X11_allTrunks⟩
set_option maxRecDepth 20000 in
theorem mp_X11_allTrunks : mm_at mm_prog 158 = some mmX11_allTrunks := rfl
set_option maxRecDepth 20000 in
theorem mi_X11_allTrunks : mm_at mm_inf 158 = some (yX11_allTrunks, cX11_allTrunks, (some .int)) := rfl
theorem fm_X11_fittingTrunks : mm_QM mmX11_fittingTrunks yX11_fittingTrunks cX11_fittingTrunks (some .int) := ⟨rfl, pn_11, cn_11, wd_1, mm_wsm_in rfl wd_1258, by decide, Or.inr (Or.inl ⟨rfl, rfl⟩), fun z => absurd z (by decide), co_X11_fittingTrunks⟩
set_option maxRecDepth 20000 in
theorem mp_X11_fittingTrunks : mm_at mm_prog 159 = some mmX11_fittingTrunks := rfl
set_option maxRecDepth 20000 in
theorem mi_X11_fittingTrunks : mm_at mm_inf 159 = some (yX11_fittingTrunks, cX11_fittingTrunks, (some .int)) := rfl
theorem fm_X11_looseStraps : mm_QM mmX11_looseStraps yX11_looseStraps cX11_looseStraps (some .int) := ⟨rfl, pn_11, cn_11, wd_1, mm_wsm_in rfl wd_1279, by decide, Or.inr (Or.inl ⟨rfl, rfl⟩), fun z => absurd z (by decide), co_X11_looseStraps⟩
set_option maxRecDepth 20000 in
theorem mp_X11_looseStraps : mm_at mm_prog 160 = some mmX11_looseStraps := rfl
set_option maxRecDepth 20000 in
theorem mi_X11_looseStraps : mm_at mm_inf 160 = some (yX11_looseStraps, cX11_looseStraps, (some .int)) := rfl
theorem fm_X11_fitsSeen : mm_QM mmX11_fitsSeen yX11_fitsSeen cX11_fitsSeen (some .boolean) := ⟨rfl, pn_11, cn_11, wd_1, mm_wsm_in rfl wd_1262, by decide, Or.inr (Or.inr (Or.inl ⟨rfl, rfl⟩)), fun z => absurd z (by decide), co_X11_fitsSeen⟩
set_option maxRecDepth 20000 in
theorem mp_X11_fitsSeen : mm_at mm_prog 161 = some mmX11_fitsSeen := rfl
set_option maxRecDepth 20000 in
theorem mi_X11_fitsSeen : mm_at mm_inf 161 = some (yX11_fitsSeen, cX11_fitsSeen, (some .boolean)) := rfl
theorem fm_X11_unlikeNumbers : mm_QM mmX11_unlikeNumbers yX11_unlikeNumbers cX11_unlikeNumbers (some .int) := ⟨rfl, pn_11, cn_11, wd_1, mm_wsm_in rfl wd_1292, by decide, Or.inr (Or.inl ⟨rfl, rfl⟩), fun z => absurd z (by decide), co_X11_unlikeNumbers⟩
set_option maxRecDepth 20000 in
theorem mp_X11_unlikeNumbers : mm_at mm_prog 162 = some mmX11_unlikeNumbers := rfl
set_option maxRecDepth 20000 in
theorem mi_X11_unlikeNumbers : mm_at mm_inf 162 = some (yX11_unlikeNumbers, cX11_unlikeNumbers, (some .int)) := rfl
theorem fm_X11_seasons : mm_QM mmX11_seasons yX11_seasons cX11_seasons (some .int) := ⟨rfl, pn_11, cn_11, wd_1, mm_wsm_in rfl wd_1299, by decide, Or.inr (Or.inl ⟨rfl, rfl⟩), fun z => absurd z (by decide), co_X11_seasons⟩
set_option maxRecDepth 20000 in
theorem mp_X11_seasons : mm_at mm_prog 163 = some mmX11_seasons := rfl
set_option maxRecDepth 20000 in
theorem mi_X11_seasons : mm_at mm_inf 163 = some (yX11_seasons, cX11_seasons, (some .int)) := rfl
theorem fm_X11_game : mm_QM mmX11_game yX11_game cX11_game (some .int) := ⟨rfl, pn_11, cn_11, wd_1, mm_wsm_in rfl wd_1306, by decide, Or.inr (Or.inl ⟨rfl, rfl⟩), fun z => absurd z (by decide), co_X11_game⟩
set_option maxRecDepth 20000 in
theorem mp_X11_game : mm_at mm_prog 164 = some mmX11_game := rfl
set_option maxRecDepth 20000 in
theorem mi_X11_game : mm_at mm_inf 164 = some (yX11_game, cX11_game, (some .int)) := rfl
theorem fm_X11_ownGain : mm_QM mmX11_ownGain yX11_ownGain cX11_ownGain (some .int) := ⟨rfl, pn_11, cn_11, wd_1, mm_wsm_in rfl wd_1310, by decide, Or.inr (Or.inl ⟨rfl, rfl⟩), fun z => absurd z (by decide), co_X11_ownGain⟩
set_option maxRecDepth 20000 in
theorem mp_X11_ownGain : mm_at mm_prog 165 = some mmX11_ownGain := rfl
set_option maxRecDepth 20000 in
theorem mi_X11_ownGain : mm_at mm_inf 165 = some (yX11_ownGain, cX11_ownGain, (some .int)) := rfl
theorem fm_X11_years : mm_QM mmX11_years yX11_years cX11_years (some .int) := ⟨rfl, pn_11, cn_11, wd_1, mm_wsm_in rfl wd_1317, by decide, Or.inr (Or.inl ⟨rfl, rfl⟩), fun z => absurd z (by decide), co_X11_years⟩
set_option maxRecDepth 20000 in
theorem mp_X11_years : mm_at mm_prog 166 = some mmX11_years := rfl
set_option maxRecDepth 20000 in
theorem mi_X11_years : mm_at mm_inf 166 = some (yX11_years, cX11_years, (some .int)) := rfl
theorem fm_X11_drawAhead : mm_QM mmX11_drawAhead yX11_drawAhead cX11_drawAhead none := ⟨rfl, pn_11, cn_11, wd_1, mm_wsm_in rfl wd_1322, by decide, Or.inl ⟨Or.inl rfl, rfl⟩, fun z => absurd z (by decide), co_X11_drawAhead⟩
set_option maxRecDepth 20000 in
theorem mp_X11_drawAhead : mm_at mm_prog 167 = some mmX11_drawAhead := rfl
set_option maxRecDepth 20000 in
theorem mi_X11_drawAhead : mm_at mm_inf 167 = some (yX11_drawAhead, cX11_drawAhead, none) := rfl
theorem fm_X11_drawOf : mm_QM mmX11_drawOf yX11_drawOf cX11_drawOf (some .int) := ⟨rfl, pn_11, cn_11, wd_1, mm_wsm_in rfl wd_1326, by decide, Or.inr (Or.inl ⟨rfl, rfl⟩), fun z => absurd z (by decide), co_X11_drawOf⟩
set_option maxRecDepth 20000 in
theorem mp_X11_drawOf : mm_at mm_prog 168 = some mmX11_drawOf := rfl
set_option maxRecDepth 20000 in
theorem mi_X11_drawOf : mm_at mm_inf 168 = some (yX11_drawOf, cX11_drawOf, (some .int)) := rfl
theorem fm_X11_image : mm_QM mmX11_image yX11_image cX11_image none := ⟨rfl, pn_11, cn_11, wd_1, mm_wsm_in rfl wd_588, by decide, Or.inl ⟨Or.inl rfl, rfl⟩, fun z => absurd z (by decide), co_X11_image⟩
set_option maxRecDepth 20000 in
theorem mp_X11_image : mm_at mm_prog 169 = some mmX11_image := rfl
set_option maxRecDepth 20000 in
theorem mi_X11_image : mm_at mm_inf 169 = some (yX11_image, cX11_image, none) := rfl
theorem fm_X11_restore : mm_QM mmX11_restore yX11_restore cX11_restore (some .boolean) := ⟨rfl, pn_11, cn_11, wd_1, mm_wsm_in rfl wd_607, by decide, Or.inr (Or.inr (Or.inl ⟨rfl, rfl⟩)), fun z => absurd z (by decide), co_X11_restore⟩
set_option maxRecDepth 20000 in
theorem mp_X11_restore : mm_at mm_prog 170 = some mmX11_restore := rfl
set_option maxRecDepth 20000 in
theorem mi_X11_restore : mm_at mm_inf 170 = some (yX11_restore, cX11_restore, (some .boolean)) := rfl
theorem fm_X11_isWord : mm_QM mmX11_isWord yX11_isWord cX11_isWord (some .boolean) := ⟨rfl, pn_11, cn_11, wd_1, mm_wsm_in rfl wd_1038, by decide, Or.inr (Or.inr (Or.inl ⟨rfl, rfl⟩)), fun z => absurd z (by decide), co_X11_isWord⟩
set_option maxRecDepth 20000 in
theorem mp_X11_isWord : mm_at mm_prog 171 = some mmX11_isWord := rfl
set_option maxRecDepth 20000 in
theorem mi_X11_isWord : mm_at mm_inf 171 = some (yX11_isWord, cX11_isWord, (some .boolean)) := rfl
theorem fm_X11_isTrunk : mm_QM mmX11_isTrunk yX11_isTrunk cX11_isTrunk (some .boolean) := ⟨rfl, pn_11, cn_11, wd_1, mm_wsm_in rfl wd_1084, by decide, Or.inr (Or.inr (Or.inl ⟨rfl, rfl⟩)), fun z => absurd z (by decide), co_X11_isTrunk⟩
set_option maxRecDepth 20000 in
theorem mp_X11_isTrunk : mm_at mm_prog 172 = some mmX11_isTrunk := rfl
set_option maxRecDepth 20000 in
theorem mi_X11_isTrunk : mm_at mm_inf 172 = some (yX11_isTrunk, cX11_isTrunk, (some .boolean)) := rfl
theorem fm_X11_isAhead : mm_QM mmX11_isAhead yX11_isAhead cX11_isAhead (some .boolean) := ⟨rfl, pn_11, cn_11, wd_1, mm_wsm_in rfl wd_1138, by decide, Or.inr (Or.inr (Or.inl ⟨rfl, rfl⟩)), fun z => absurd z (by decide), co_X11_isAhead⟩
set_option maxRecDepth 20000 in
theorem mp_X11_isAhead : mm_at mm_prog 173 = some mmX11_isAhead := rfl
set_option maxRecDepth 20000 in
theorem mi_X11_isAhead : mm_at mm_inf 173 = some (yX11_isAhead, cX11_isAhead, (some .boolean)) := rfl
theorem fm_X11_mustBe : mm_QM mmX11_mustBe yX11_mustBe cX11_mustBe none := ⟨rfl, pn_11, cn_11, wd_1, mm_wsm_in rfl wd_1008, by decide, Or.inl ⟨Or.inl rfl, rfl⟩, fun z => absurd z (by decide), co_X11_mustBe⟩
set_option maxRecDepth 20000 in
theorem mp_X11_mustBe : mm_at mm_prog 174 = some mmX11_mustBe := rfl
set_option maxRecDepth 20000 in
theorem mi_X11_mustBe : mm_at mm_inf 174 = some (yX11_mustBe, cX11_mustBe, none) := rfl
theorem fm_X11_mustFit : mm_QM mmX11_mustFit yX11_mustFit cX11_mustFit none := ⟨rfl, pn_11, cn_11, wd_1, mm_wsm_in rfl wd_618, by decide, Or.inl ⟨Or.inl rfl, rfl⟩, fun z => absurd z (by decide), co_X11_mustFit⟩
set_option maxRecDepth 20000 in
theorem mp_X11_mustFit : mm_at mm_prog 175 = some mmX11_mustFit := rfl
set_option maxRecDepth 20000 in
theorem mi_X11_mustFit : mm_at mm_inf 175 = some (yX11_mustFit, cX11_mustFit, none) := rfl
theorem fm_X11_at : mm_QM mmX11_at yX11_at cX11_at (some .int) := ⟨rfl, pn_11, cn_11, wd_1, mm_wsm_in rfl wd_404, by decide, Or.inr (Or.inl ⟨rfl, rfl⟩), fun z => absurd z (by decide), co_X11_at⟩
set_option maxRecDepth 20000 in
theorem mp_X11_at : mm_at mm_prog 176 = some mmX11_at := rfl
set_option maxRecDepth 20000 in
theorem mi_X11_at : mm_at mm_inf 176 = some (yX11_at, cX11_at, (some .int)) := rfl
theorem fm_X11_put : mm_QM mmX11_put yX11_put cX11_put none := ⟨rfl, pn_11, cn_11, wd_1, mm_wsm_in rfl wd_407, by decide, Or.inl ⟨Or.inl rfl, rfl⟩, fun z => absurd z (by decide), co_X11_put⟩
set_option maxRecDepth 20000 in
theorem mp_X11_put : mm_at mm_prog 177 = some mmX11_put := rfl
set_option maxRecDepth 20000 in
theorem mi_X11_put : mm_at mm_inf 177 = some (yX11_put, cX11_put, none) := rfl
theorem fm_X11_copyRow : mm_QM mmX11_copyRow yX11_copyRow cX11_copyRow none := ⟨rfl, pn_11, cn_11, wd_1, mm_wsm_in rfl wd_603, by decide, Or.inl ⟨Or.inl rfl, rfl⟩, fun z => absurd z (by decide), co_X11_copyRow⟩
set_option maxRecDepth 20000 in
theorem mp_X11_copyRow : mm_at mm_prog 178 = some mmX11_copyRow := rfl
set_option maxRecDepth 20000 in
theorem mi_X11_copyRow : mm_at mm_inf 178 = some (yX11_copyRow, cX11_copyRow, none) := rfl
theorem fm_X11_lowestBit : mm_QM mmX11_lowestBit yX11_lowestBit cX11_lowestBit (some .int) := ⟨rfl, pn_11, cn_11, wd_1, mm_wsm_in rfl wd_555, by decide, Or.inr (Or.inl ⟨rfl, rfl⟩), fun z => absurd z (by decide), co_X11_lowestBit⟩
set_option maxRecDepth 20000 in
theorem mp_X11_lowestBit : mm_at mm_prog 179 = some mmX11_lowestBit := rfl
set_option maxRecDepth 20000 in
theorem mi_X11_lowestBit : mm_at mm_inf 179 = some (yX11_lowestBit, cX11_lowestBit, (some .int)) := rfl
theorem pn_12 : plainName yX12_init.cls = true := by decide +kernel
theorem cn_12 : yX12_init.cls ≠ "java/lang/invoke/MethodHandle" ∧ yX12_init.cls ≠ "java/lang/invoke/VarHandle" := by decide +kernel
theorem fm_X12_init : mm_QM mmX12_init yX12_init cX12_init none := ⟨rfl, pn_12, cn_12, wd_13, mm_wsm_in rfl wd_1332, by decide, Or.inl ⟨Or.inr rfl, rfl⟩, fun _ => rfl, co_X12_init⟩
set_option maxRecDepth 20000 in
theorem mp_X12_init : mm_at mm_prog 180 = some mmX12_init := rfl
set_option maxRecDepth 20000 in
theorem mi_X12_init : mm_at mm_inf 180 = some (yX12_init, cX12_init, none) := rfl
theorem fm_X12_thrown : mm_QM mmX12_thrown yX12_thrown cX12_thrown (some .int) := ⟨rfl, pn_12, cn_12, wd_13, mm_wsm_in rfl wd_1535, by decide, Or.inr (Or.inl ⟨rfl, rfl⟩), fun z => absurd z (by decide), co_X12_thrown⟩
set_option maxRecDepth 20000 in
theorem mp_X12_thrown : mm_at mm_prog 181 = some mmX12_thrown := rfl
set_option maxRecDepth 20000 in
theorem mi_X12_thrown : mm_at mm_inf 181 = some (yX12_thrown, cX12_thrown, (some .int)) := rfl
theorem fm_X12_fail : mm_QM mmX12_fail yX12_fail cX12_fail (some .int) := ⟨rfl, pn_12, cn_12, wd_13, mm_wsm_in rfl wd_1547, by decide, Or.inr (Or.inl ⟨rfl, rfl⟩), fun z => absurd z (by decide), co_X12_fail⟩
set_option maxRecDepth 20000 in
theorem mp_X12_fail : mm_at mm_prog 182 = some mmX12_fail := rfl
set_option maxRecDepth 20000 in
theorem mi_X12_fail : mm_at mm_inf 182 = some (yX12_fail, cX12_fail, (some .int)) := rfl
theorem fm_X12_isIn : mm_QM mmX12_isIn yX12_isIn cX12_isIn (some .boolean) := ⟨rfl, pn_12, cn_12, wd_13, mm_wsm_in rfl wd_1711, by decide, Or.inr (Or.inr (Or.inl ⟨rfl, rfl⟩)), fun z => absurd z (by decide), co_X12_isIn⟩
set_option maxRecDepth 20000 in
theorem mp_X12_isIn : mm_at mm_prog 183 = some mmX12_isIn := rfl
set_option maxRecDepth 20000 in
theorem mi_X12_isIn : mm_at mm_inf 183 = some (yX12_isIn, cX12_isIn, (some .boolean)) := rfl
theorem fm_X12_isOf : mm_QM mmX12_isOf yX12_isOf cX12_isOf (some .boolean) := ⟨rfl, pn_12, cn_12, wd_13, mm_wsm_in rfl wd_1768, by decide, Or.inr (Or.inr (Or.inl ⟨rfl, rfl⟩)), fun z => absurd z (by decide), co_X12_isOf⟩
set_option maxRecDepth 20000 in
theorem mp_X12_isOf : mm_at mm_prog 184 = some mmX12_isOf := rfl
set_option maxRecDepth 20000 in
theorem mi_X12_isOf : mm_at mm_inf 184 = some (yX12_isOf, cX12_isOf, (some .boolean)) := rfl
theorem fm_X12_bitsOf : mm_QM mmX12_bitsOf yX12_bitsOf cX12_bitsOf (some .int) := ⟨rfl, pn_12, cn_12, wd_13, mm_wsm_in rfl wd_1949, by decide, Or.inr (Or.inl ⟨rfl, rfl⟩), fun z => absurd z (by decide), co_X12_bitsOf⟩
set_option maxRecDepth 20000 in
theorem mp_X12_bitsOf : mm_at mm_prog 185 = some mmX12_bitsOf := rfl
set_option maxRecDepth 20000 in
theorem mi_X12_bitsOf : mm_at mm_inf 185 = some (yX12_bitsOf, cX12_bitsOf, (some .int)) := rfl
theorem fm_X12_isWord : mm_QM mmX12_isWord yX12_isWord cX12_isWord (some .boolean) := ⟨rfl, pn_12, cn_12, wd_13, mm_wsm_in rfl wd_1708, by decide, Or.inr (Or.inr (Or.inl ⟨rfl, rfl⟩)), fun z => absurd z (by decide), co_X12_isWord⟩
set_option maxRecDepth 20000 in
theorem mp_X12_isWord : mm_at mm_prog 186 = some mmX12_isWord := rfl
set_option maxRecDepth 20000 in
theorem mi_X12_isWord : mm_at mm_inf 186 = some (yX12_isWord, cX12_isWord, (some .boolean)) := rfl
theorem fm_X12_isTrunk : mm_QM mmX12_isTrunk yX12_isTrunk cX12_isTrunk (some .boolean) := ⟨rfl, pn_12, cn_12, wd_13, mm_wsm_in rfl wd_1748, by decide, Or.inr (Or.inr (Or.inl ⟨rfl, rfl⟩)), fun z => absurd z (by decide), co_X12_isTrunk⟩
set_option maxRecDepth 20000 in
theorem mp_X12_isTrunk : mm_at mm_prog 187 = some mmX12_isTrunk := rfl
set_option maxRecDepth 20000 in
theorem mi_X12_isTrunk : mm_at mm_inf 187 = some (yX12_isTrunk, cX12_isTrunk, (some .boolean)) := rfl
theorem fm_X12_feed : mm_QM mmX12_feed yX12_feed cX12_feed (some .int) := ⟨rfl, pn_12, cn_12, wd_13, mm_wsm_in rfl wd_1539, by decide, Or.inr (Or.inl ⟨rfl, rfl⟩), fun z => absurd z (by decide), co_X12_feed⟩
set_option maxRecDepth 20000 in
theorem mp_X12_feed : mm_at mm_prog 188 = some mmX12_feed := rfl
set_option maxRecDepth 20000 in
theorem mi_X12_feed : mm_at mm_inf 188 = some (yX12_feed, cX12_feed, (some .int)) := rfl
theorem fm_X12_byteAt : mm_QM mmX12_byteAt yX12_byteAt cX12_byteAt (some .int) := ⟨rfl, pn_12, cn_12, wd_13, mm_wsm_in rfl wd_1555, by decide, Or.inr (Or.inl ⟨rfl, rfl⟩), fun z => absurd z (by decide), co_X12_byteAt⟩
set_option maxRecDepth 20000 in
theorem mp_X12_byteAt : mm_at mm_prog 189 = some mmX12_byteAt := rfl
set_option maxRecDepth 20000 in
theorem mi_X12_byteAt : mm_at mm_inf 189 = some (yX12_byteAt, cX12_byteAt, (some .int)) := rfl
theorem fm_X12_isLetter : mm_QM mmX12_isLetter yX12_isLetter cX12_isLetter (some .boolean) := ⟨rfl, pn_12, cn_12, wd_13, mm_wsm_in rfl wd_1558, by decide, Or.inr (Or.inr (Or.inl ⟨rfl, rfl⟩)), fun z => absurd z (by decide), co_X12_isLetter⟩
set_option maxRecDepth 20000 in
theorem mp_X12_isLetter : mm_at mm_prog 190 = some mmX12_isLetter := rfl
set_option maxRecDepth 20000 in
theorem mi_X12_isLetter : mm_at mm_inf 190 = some (yX12_isLetter, cX12_isLetter, (some .boolean)) := rfl
theorem fm_X12_isDigit : mm_QM mmX12_isDigit yX12_isDigit cX12_isDigit (some .boolean) := ⟨rfl, pn_12, cn_12, wd_13, mm_wsm_in rfl wd_1561, by decide, Or.inr (Or.inr (Or.inl ⟨rfl, rfl⟩)), fun z => absurd z (by decide), co_X12_isDigit⟩
set_option maxRecDepth 20000 in
theorem mp_X12_isDigit : mm_at mm_prog 191 = some mmX12_isDigit := rfl
set_option maxRecDepth 20000 in
theorem mi_X12_isDigit : mm_at mm_inf 191 = some (yX12_isDigit, cX12_isDigit, (some .boolean)) := rfl
theorem fm_X12_isMark : mm_QM mmX12_isMark yX12_isMark cX12_isMark (some .boolean) := ⟨rfl, pn_12, cn_12, wd_13, mm_wsm_in rfl wd_1566, by decide, Or.inr (Or.inr (Or.inl ⟨rfl, rfl⟩)), fun z => absurd z (by decide), co_X12_isMark⟩
set_option maxRecDepth 20000 in
theorem mp_X12_isMark : mm_at mm_prog 192 = some mmX12_isMark := rfl
set_option maxRecDepth 20000 in
theorem mi_X12_isMark : mm_at mm_inf 192 = some (yX12_isMark, cX12_isMark, (some .boolean)) := rfl
theorem fm_X12_stepOn : mm_QM mmX12_stepOn yX12_stepOn cX12_stepOn none := ⟨rfl, pn_12, cn_12, wd_13, mm_wsm_in rfl wd_1551, by decide, Or.inl ⟨Or.inl rfl, rfl⟩, fun z => absurd z (by decide), co_X12_stepOn⟩
set_option maxRecDepth 20000 in
theorem mp_X12_stepOn : mm_at mm_prog 193 = some mmX12_stepOn := rfl
set_option maxRecDepth 20000 in
theorem mi_X12_stepOn : mm_at mm_inf 193 = some (yX12_stepOn, cX12_stepOn, none) := rfl
theorem fm_X12_wrong : mm_QM mmX12_wrong yX12_wrong cX12_wrong none := ⟨rfl, pn_12, cn_12, wd_13, mm_wsm_in rfl wd_1585, by decide, Or.inl ⟨Or.inl rfl, rfl⟩, fun z => absurd z (by decide), co_X12_wrong⟩
set_option maxRecDepth 20000 in
theorem mp_X12_wrong : mm_at mm_prog 194 = some mmX12_wrong := rfl
set_option maxRecDepth 20000 in
theorem mi_X12_wrong : mm_at mm_inf 194 = some (yX12_wrong, cX12_wrong, none) := rfl
theorem fm_X12_is : mm_QM mmX12_is yX12_is cX12_is (some .boolean) := ⟨rfl, pn_12, cn_12, wd_13, mm_wsm_in rfl wd_1578, by decide, Or.inr (Or.inr (Or.inl ⟨rfl, rfl⟩)), fun z => absurd z (by decide), co_X12_is⟩
set_option maxRecDepth 20000 in
theorem mp_X12_is : mm_at mm_prog 195 = some mmX12_is := rfl
set_option maxRecDepth 20000 in
theorem mi_X12_is : mm_at mm_inf 195 = some (yX12_is, cX12_is, (some .boolean)) := rfl
theorem fm_X12_which : mm_QM mmX12_which yX12_which cX12_which (some .int) := ⟨rfl, pn_12, cn_12, wd_13, mm_wsm_in rfl wd_1574, by decide, Or.inr (Or.inl ⟨rfl, rfl⟩), fun z => absurd z (by decide), co_X12_which⟩
set_option maxRecDepth 20000 in
theorem mp_X12_which : mm_at mm_prog 196 = some mmX12_which := rfl
set_option maxRecDepth 20000 in
theorem mi_X12_which : mm_at mm_inf 196 = some (yX12_which, cX12_which, (some .int)) := rfl
theorem fm_X12_isMarked : mm_QM mmX12_isMarked yX12_isMarked cX12_isMarked (some .boolean) := ⟨rfl, pn_12, cn_12, wd_13, mm_wsm_in rfl wd_1605, by decide, Or.inr (Or.inr (Or.inl ⟨rfl, rfl⟩)), fun z => absurd z (by decide), co_X12_isMarked⟩
set_option maxRecDepth 20000 in
theorem mp_X12_isMarked : mm_at mm_prog 197 = some mmX12_isMarked := rfl
set_option maxRecDepth 20000 in
theorem mi_X12_isMarked : mm_at mm_inf 197 = some (yX12_isMarked, cX12_isMarked, (some .boolean)) := rfl
theorem fm_X12_mark : mm_QM mmX12_mark yX12_mark cX12_mark none := ⟨rfl, pn_12, cn_12, wd_13, mm_wsm_in rfl wd_1634, by decide, Or.inl ⟨Or.inl rfl, rfl⟩, fun z => absurd z (by decide), co_X12_mark⟩
set_option maxRecDepth 20000 in
theorem mp_X12_mark : mm_at mm_prog 198 = some mmX12_mark := rfl
set_option maxRecDepth 20000 in
theorem mi_X12_mark : mm_at mm_inf 198 = some (yX12_mark, cX12_mark, none) := rfl
theorem fm_X12_numberNow : mm_QM mmX12_numberNow yX12_numberNow cX12_numberNow (some .int) := ⟨rfl, pn_12, cn_12, wd_13, mm_wsm_in rfl wd_1597, by decide, Or.inr (Or.inl ⟨rfl, rfl⟩), fun z => absurd z (by decide), co_X12_numberNow⟩
set_option maxRecDepth 20000 in
theorem mp_X12_numberNow : mm_at mm_prog 199 = some mmX12_numberNow := rfl
set_option maxRecDepth 20000 in
theorem mi_X12_numberNow : mm_at mm_inf 199 = some (yX12_numberNow, cX12_numberNow, (some .int)) := rfl
theorem fm_X12_readNumber : mm_QM mmX12_readNumber yX12_readNumber cX12_readNumber (some .int) := ⟨rfl, pn_12, cn_12, wd_13, mm_wsm_in rfl wd_1593, by decide, Or.inr (Or.inl ⟨rfl, rfl⟩), fun z => absurd z (by decide), co_X12_readNumber⟩
set_option maxRecDepth 20000 in
theorem mp_X12_readNumber : mm_at mm_prog 200 = some mmX12_readNumber := rfl
set_option maxRecDepth 20000 in
theorem mi_X12_readNumber : mm_at mm_inf 200 = some (yX12_readNumber, cX12_readNumber, (some .int)) := rfl
theorem fm_X12_lay : mm_QM mmX12_lay yX12_lay cX12_lay none := ⟨rfl, pn_12, cn_12, wd_13, mm_wsm_in rfl wd_1630, by decide, Or.inl ⟨Or.inl rfl, rfl⟩, fun z => absurd z (by decide), co_X12_lay⟩
set_option maxRecDepth 20000 in
theorem mp_X12_lay : mm_at mm_prog 201 = some mmX12_lay := rfl
set_option maxRecDepth 20000 in
theorem mi_X12_lay : mm_at mm_inf 201 = some (yX12_lay, cX12_lay, none) := rfl
theorem fm_X12_readPart : mm_QM mmX12_readPart yX12_readPart cX12_readPart none := ⟨rfl, pn_12, cn_12, wd_13, mm_wsm_in rfl wd_1626, by decide, Or.inl ⟨Or.inl rfl, rfl⟩, fun z => absurd z (by decide), co_X12_readPart⟩
set_option maxRecDepth 20000 in
theorem mp_X12_readPart : mm_at mm_prog 202 = some mmX12_readPart := rfl
set_option maxRecDepth 20000 in
theorem mi_X12_readPart : mm_at mm_inf 202 = some (yX12_readPart, cX12_readPart, none) := rfl
theorem fm_X12_readProduct : mm_QM mmX12_readProduct yX12_readProduct cX12_readProduct none := ⟨rfl, pn_12, cn_12, wd_13, mm_wsm_in rfl wd_1622, by decide, Or.inl ⟨Or.inl rfl, rfl⟩, fun z => absurd z (by decide), co_X12_readProduct⟩
set_option maxRecDepth 20000 in
theorem mp_X12_readProduct : mm_at mm_prog 203 = some mmX12_readProduct := rfl
set_option maxRecDepth 20000 in
theorem mi_X12_readProduct : mm_at mm_inf 203 = some (yX12_readProduct, cX12_readProduct, none) := rfl
theorem fm_X12_readSum : mm_QM mmX12_readSum yX12_readSum cX12_readSum none := ⟨rfl, pn_12, cn_12, wd_13, mm_wsm_in rfl wd_1618, by decide, Or.inl ⟨Or.inl rfl, rfl⟩, fun z => absurd z (by decide), co_X12_readSum⟩
set_option maxRecDepth 20000 in
theorem mp_X12_readSum : mm_at mm_prog 204 = some mmX12_readSum := rfl
set_option maxRecDepth 20000 in
theorem mi_X12_readSum : mm_at mm_inf 204 = some (yX12_readSum, cX12_readSum, none) := rfl
theorem fm_X12_readNot : mm_QM mmX12_readNot yX12_readNot cX12_readNot none := ⟨rfl, pn_12, cn_12, wd_13, mm_wsm_in rfl wd_1613, by decide, Or.inl ⟨Or.inl rfl, rfl⟩, fun z => absurd z (by decide), co_X12_readNot⟩
set_option maxRecDepth 20000 in
theorem mp_X12_readNot : mm_at mm_prog 205 = some mmX12_readNot := rfl
set_option maxRecDepth 20000 in
theorem mi_X12_readNot : mm_at mm_inf 205 = some (yX12_readNot, cX12_readNot, none) := rfl
theorem fm_X12_readAnd : mm_QM mmX12_readAnd yX12_readAnd cX12_readAnd none := ⟨rfl, pn_12, cn_12, wd_13, mm_wsm_in rfl wd_1609, by decide, Or.inl ⟨Or.inl rfl, rfl⟩, fun z => absurd z (by decide), co_X12_readAnd⟩
set_option maxRecDepth 20000 in
theorem mp_X12_readAnd : mm_at mm_prog 206 = some mmX12_readAnd := rfl
set_option maxRecDepth 20000 in
theorem mi_X12_readAnd : mm_at mm_inf 206 = some (yX12_readAnd, cX12_readAnd, none) := rfl
theorem fm_X12_readExpression : mm_QM mmX12_readExpression yX12_readExpression cX12_readExpression none := ⟨rfl, pn_12, cn_12, wd_13, mm_wsm_in rfl wd_1601, by decide, Or.inl ⟨Or.inl rfl, rfl⟩, fun z => absurd z (by decide), co_X12_readExpression⟩
set_option maxRecDepth 20000 in
theorem mp_X12_readExpression : mm_at mm_prog 207 = some mmX12_readExpression := rfl
set_option maxRecDepth 20000 in
theorem mi_X12_readExpression : mm_at mm_inf 207 = some (yX12_readExpression, cX12_readExpression, none) := rfl
theorem fm_X12_another : mm_QM mmX12_another yX12_another cX12_another (some .boolean) := ⟨rfl, pn_12, cn_12, wd_13, mm_wsm_in rfl wd_1644, by decide, Or.inr (Or.inr (Or.inl ⟨rfl, rfl⟩)), fun z => absurd z (by decide), co_X12_another⟩
set_option maxRecDepth 20000 in
theorem mp_X12_another : mm_at mm_prog 208 = some mmX12_another := rfl
set_option maxRecDepth 20000 in
theorem mi_X12_another : mm_at mm_inf 208 = some (yX12_another, cX12_another, (some .boolean)) := rfl
theorem fm_X12_isToldAhead : mm_QM mmX12_isToldAhead yX12_isToldAhead cX12_isToldAhead (some .boolean) := ⟨rfl, pn_12, cn_12, wd_13, mm_wsm_in rfl wd_1657, by decide, Or.inr (Or.inr (Or.inl ⟨rfl, rfl⟩)), fun z => absurd z (by decide), co_X12_isToldAhead⟩
set_option maxRecDepth 20000 in
theorem mp_X12_isToldAhead : mm_at mm_prog 209 = some mmX12_isToldAhead := rfl
set_option maxRecDepth 20000 in
theorem mi_X12_isToldAhead : mm_at mm_inf 209 = some (yX12_isToldAhead, cX12_isToldAhead, (some .boolean)) := rfl
theorem fm_X12_sayWord : mm_QM mmX12_sayWord yX12_sayWord cX12_sayWord none := ⟨rfl, pn_12, cn_12, wd_13, mm_wsm_in rfl wd_1653, by decide, Or.inl ⟨Or.inl rfl, rfl⟩, fun z => absurd z (by decide), co_X12_sayWord⟩
set_option maxRecDepth 20000 in
theorem mp_X12_sayWord : mm_at mm_prog 210 = some mmX12_sayWord := rfl
set_option maxRecDepth 20000 in
theorem mi_X12_sayWord : mm_at mm_inf 210 = some (yX12_sayWord, cX12_sayWord, none) := rfl
theorem fm_X12_readWhich : mm_QM mmX12_readWhich yX12_readWhich cX12_readWhich (some .int) := ⟨rfl, pn_12, cn_12, wd_13, mm_wsm_in rfl wd_1648, by decide, Or.inr (Or.inl ⟨rfl, rfl⟩), fun z => absurd z (by decide), co_X12_readWhich⟩
set_option maxRecDepth 20000 in
theorem mp_X12_readWhich : mm_at mm_prog 211 = some mmX12_readWhich := rfl
set_option maxRecDepth 20000 in
theorem mi_X12_readWhich : mm_at mm_inf 211 = some (yX12_readWhich, cX12_readWhich, (some .int)) := rfl
theorem fm_X12_sayTrunk : mm_QM mmX12_sayTrunk yX12_sayTrunk cX12_sayTrunk none := ⟨rfl, pn_12, cn_12, wd_13, mm_wsm_in rfl wd_1640, by decide, Or.inl ⟨Or.inl rfl, rfl⟩, fun z => absurd z (by decide), co_X12_sayTrunk⟩
set_option maxRecDepth 20000 in
theorem mp_X12_sayTrunk : mm_at mm_prog 212 = some mmX12_sayTrunk := rfl
set_option maxRecDepth 20000 in
theorem mi_X12_sayTrunk : mm_at mm_inf 212 = some (yX12_sayTrunk, cX12_sayTrunk, none) := rfl
theorem fm_X12_sayHeat : mm_QM mmX12_sayHeat yX12_sayHeat cX12_sayHeat none := ⟨rfl, pn_12, cn_12, wd_13, mm_wsm_in rfl wd_1589, by decide, Or.inl ⟨Or.inl rfl, rfl⟩, fun z => absurd z (by decide), co_X12_sayHeat⟩
set_option maxRecDepth 20000 in
theorem mp_X12_sayHeat : mm_at mm_prog 213 = some mmX12_sayHeat := rfl
set_option maxRecDepth 20000 in
theorem mi_X12_sayHeat : mm_at mm_inf 213 = some (yX12_sayHeat, cX12_sayHeat, none) := rfl
theorem fm_X12_readLine : mm_QM mmX12_readLine yX12_readLine cX12_readLine (some .int) := ⟨rfl, pn_12, cn_12, wd_13, mm_wsm_in rfl wd_1570, by decide, Or.inr (Or.inl ⟨rfl, rfl⟩), fun z => absurd z (by decide), co_X12_readLine⟩
set_option maxRecDepth 20000 in
theorem mp_X12_readLine : mm_at mm_prog 214 = some mmX12_readLine := rfl
set_option maxRecDepth 20000 in
theorem mi_X12_readLine : mm_at mm_inf 214 = some (yX12_readLine, cX12_readLine, (some .int)) := rfl
theorem fm_X12_baggage : mm_QM mmX12_baggage yX12_baggage cX12_baggage (some .int) := ⟨rfl, pn_12, cn_12, wd_13, mm_wsm_in rfl wd_1543, by decide, Or.inr (Or.inl ⟨rfl, rfl⟩), fun z => absurd z (by decide), co_X12_baggage⟩
set_option maxRecDepth 20000 in
theorem mp_X12_baggage : mm_at mm_prog 215 = some mmX12_baggage := rfl
set_option maxRecDepth 20000 in
theorem mi_X12_baggage : mm_at mm_inf 215 = some (yX12_baggage, cX12_baggage, (some .int)) := rfl
theorem fm_X12_takeHalf : mm_QM mmX12_takeHalf yX12_takeHalf cX12_takeHalf none := ⟨rfl, pn_12, cn_12, wd_13, mm_wsm_in rfl wd_1664, by decide, Or.inl ⟨Or.inl rfl, rfl⟩, fun z => absurd z (by decide), co_X12_takeHalf⟩
set_option maxRecDepth 20000 in
theorem mp_X12_takeHalf : mm_at mm_prog 216 = some mmX12_takeHalf := rfl
set_option maxRecDepth 20000 in
theorem mi_X12_takeHalf : mm_at mm_inf 216 = some (yX12_takeHalf, cX12_takeHalf, none) := rfl
theorem fm_X12_takeOver : mm_QM mmX12_takeOver yX12_takeOver cX12_takeOver none := ⟨rfl, pn_12, cn_12, wd_13, mm_wsm_in rfl wd_1661, by decide, Or.inl ⟨Or.inl rfl, rfl⟩, fun z => absurd z (by decide), co_X12_takeOver⟩
set_option maxRecDepth 20000 in
theorem mp_X12_takeOver : mm_at mm_prog 217 = some mmX12_takeOver := rfl
set_option maxRecDepth 20000 in
theorem mi_X12_takeOver : mm_at mm_inf 217 = some (yX12_takeOver, cX12_takeOver, none) := rfl
theorem fm_X12_fault : mm_QM mmX12_fault yX12_fault cX12_fault (some .int) := ⟨rfl, pn_12, cn_12, wd_13, mm_wsm_in rfl wd_1668, by decide, Or.inr (Or.inl ⟨rfl, rfl⟩), fun z => absurd z (by decide), co_X12_fault⟩
set_option maxRecDepth 20000 in
theorem mp_X12_fault : mm_at mm_prog 218 = some mmX12_fault := rfl
set_option maxRecDepth 20000 in
theorem mi_X12_fault : mm_at mm_inf 218 = some (yX12_fault, cX12_fault, (some .int)) := rfl
theorem fm_X12_store : mm_QM mmX12_store yX12_store cX12_store none := ⟨rfl, pn_12, cn_12, wd_13, mm_wsm_in rfl wd_1785, by decide, Or.inl ⟨Or.inl rfl, rfl⟩, fun z => absurd z (by decide), co_X12_store⟩
set_option maxRecDepth 20000 in
theorem mp_X12_store : mm_at mm_prog 219 = some mmX12_store := rfl
set_option maxRecDepth 20000 in
theorem mi_X12_store : mm_at mm_inf 219 = some (yX12_store, cX12_store, none) := rfl
theorem fm_X12_recall : mm_QM mmX12_recall yX12_recall cX12_recall none := ⟨rfl, pn_12, cn_12, wd_13, mm_wsm_in rfl wd_1841, by decide, Or.inl ⟨Or.inl rfl, rfl⟩, fun z => absurd z (by decide), co_X12_recall⟩
set_option maxRecDepth 20000 in
theorem mp_X12_recall : mm_at mm_prog 220 = some mmX12_recall := rfl
set_option maxRecDepth 20000 in
theorem mi_X12_recall : mm_at mm_inf 220 = some (yX12_recall, cX12_recall, none) := rfl
theorem fm_X12_letterOf : mm_QM mmX12_letterOf yX12_letterOf cX12_letterOf (some .int) := ⟨rfl, pn_12, cn_12, wd_13, mm_wsm_in rfl wd_1724, by decide, Or.inr (Or.inl ⟨rfl, rfl⟩), fun z => absurd z (by decide), co_X12_letterOf⟩
set_option maxRecDepth 20000 in
theorem mp_X12_letterOf : mm_at mm_prog 221 = some mmX12_letterOf := rfl
set_option maxRecDepth 20000 in
theorem mi_X12_letterOf : mm_at mm_inf 221 = some (yX12_letterOf, cX12_letterOf, (some .int)) := rfl
theorem fm_X12_overlapOf : mm_QM mmX12_overlapOf yX12_overlapOf cX12_overlapOf (some .int) := ⟨rfl, pn_12, cn_12, wd_13, mm_wsm_in rfl wd_1801, by decide, Or.inr (Or.inl ⟨rfl, rfl⟩), fun z => absurd z (by decide), co_X12_overlapOf⟩
set_option maxRecDepth 20000 in
theorem mp_X12_overlapOf : mm_at mm_prog 222 = some mmX12_overlapOf := rfl
set_option maxRecDepth 20000 in
theorem mi_X12_overlapOf : mm_at mm_inf 222 = some (yX12_overlapOf, cX12_overlapOf, (some .int)) := rfl
theorem fm_X12_wordInto : mm_QM mmX12_wordInto yX12_wordInto cX12_wordInto (some .int) := ⟨rfl, pn_12, cn_12, wd_13, mm_wsm_in rfl wd_1720, by decide, Or.inr (Or.inl ⟨rfl, rfl⟩), fun z => absurd z (by decide), co_X12_wordInto⟩
set_option maxRecDepth 20000 in
theorem mp_X12_wordInto : mm_at mm_prog 223 = some mmX12_wordInto := rfl
set_option maxRecDepth 20000 in
theorem mi_X12_wordInto : mm_at mm_inf 223 = some (yX12_wordInto, cX12_wordInto, (some .int)) := rfl
theorem fm_X12_blendInto : mm_QM mmX12_blendInto yX12_blendInto cX12_blendInto (some .int) := ⟨rfl, pn_12, cn_12, wd_13, mm_wsm_in rfl wd_1760, by decide, Or.inr (Or.inl ⟨rfl, rfl⟩), fun z => absurd z (by decide), co_X12_blendInto⟩
set_option maxRecDepth 20000 in
theorem mp_X12_blendInto : mm_at mm_prog 224 = some mmX12_blendInto := rfl
set_option maxRecDepth 20000 in
theorem mi_X12_blendInto : mm_at mm_inf 224 = some (yX12_blendInto, cX12_blendInto, (some .int)) := rfl
theorem fm_X12_compared : mm_QM mmX12_compared yX12_compared cX12_compared (some .int) := ⟨rfl, pn_12, cn_12, wd_13, mm_wsm_in rfl wd_1764, by decide, Or.inr (Or.inl ⟨rfl, rfl⟩), fun z => absurd z (by decide), co_X12_compared⟩
set_option maxRecDepth 20000 in
theorem mp_X12_compared : mm_at mm_prog 225 = some mmX12_compared := rfl
set_option maxRecDepth 20000 in
theorem mi_X12_compared : mm_at mm_inf 225 = some (yX12_compared, cX12_compared, (some .int)) := rfl
theorem fm_X12_isWithin : mm_QM mmX12_isWithin yX12_isWithin cX12_isWithin (some .boolean) := ⟨rfl, pn_12, cn_12, wd_13, mm_wsm_in rfl wd_1728, by decide, Or.inr (Or.inr (Or.inl ⟨rfl, rfl⟩)), fun z => absurd z (by decide), co_X12_isWithin⟩
set_option maxRecDepth 20000 in
theorem mp_X12_isWithin : mm_at mm_prog 226 = some mmX12_isWithin := rfl
set_option maxRecDepth 20000 in
theorem mi_X12_isWithin : mm_at mm_inf 226 = some (yX12_isWithin, cX12_isWithin, (some .boolean)) := rfl
theorem fm_X12_areSame : mm_QM mmX12_areSame yX12_areSame cX12_areSame (some .boolean) := ⟨rfl, pn_12, cn_12, wd_13, mm_wsm_in rfl wd_1884, by decide, Or.inr (Or.inr (Or.inl ⟨rfl, rfl⟩)), fun z => absurd z (by decide), co_X12_areSame⟩
set_option maxRecDepth 20000 in
theorem mp_X12_areSame : mm_at mm_prog 227 = some mmX12_areSame := rfl
set_option maxRecDepth 20000 in
theorem mi_X12_areSame : mm_at mm_inf 227 = some (yX12_areSame, cX12_areSame, (some .boolean)) := rfl
theorem fm_X12_withinOf : mm_QM mmX12_withinOf yX12_withinOf cX12_withinOf (some .int) := ⟨rfl, pn_12, cn_12, wd_13, mm_wsm_in rfl wd_1716, by decide, Or.inr (Or.inl ⟨rfl, rfl⟩), fun z => absurd z (by decide), co_X12_withinOf⟩
set_option maxRecDepth 20000 in
theorem mp_X12_withinOf : mm_at mm_prog 228 = some mmX12_withinOf := rfl
set_option maxRecDepth 20000 in
theorem mi_X12_withinOf : mm_at mm_inf 228 = some (yX12_withinOf, cX12_withinOf, (some .int)) := rfl
theorem fm_X12_manyOf : mm_QM mmX12_manyOf yX12_manyOf cX12_manyOf (some .int) := ⟨rfl, pn_12, cn_12, wd_13, mm_wsm_in rfl wd_1736, by decide, Or.inr (Or.inl ⟨rfl, rfl⟩), fun z => absurd z (by decide), co_X12_manyOf⟩
set_option maxRecDepth 20000 in
theorem mp_X12_manyOf : mm_at mm_prog 229 = some mmX12_manyOf := rfl
set_option maxRecDepth 20000 in
theorem mi_X12_manyOf : mm_at mm_inf 229 = some (yX12_manyOf, cX12_manyOf, (some .int)) := rfl
theorem fm_X12_anagramsOf : mm_QM mmX12_anagramsOf yX12_anagramsOf cX12_anagramsOf (some .int) := ⟨rfl, pn_12, cn_12, wd_13, mm_wsm_in rfl wd_1732, by decide, Or.inr (Or.inl ⟨rfl, rfl⟩), fun z => absurd z (by decide), co_X12_anagramsOf⟩
set_option maxRecDepth 20000 in
theorem mp_X12_anagramsOf : mm_at mm_prog 230 = some mmX12_anagramsOf := rfl
set_option maxRecDepth 20000 in
theorem mi_X12_anagramsOf : mm_at mm_inf 230 = some (yX12_anagramsOf, cX12_anagramsOf, (some .int)) := rfl
theorem fm_X12_reckon : mm_QM mmX12_reckon yX12_reckon cX12_reckon (some .int) := ⟨rfl, pn_12, cn_12, wd_13, mm_wsm_in rfl wd_1808, by decide, Or.inr (Or.inl ⟨rfl, rfl⟩), fun z => absurd z (by decide), co_X12_reckon⟩
set_option maxRecDepth 20000 in
theorem mp_X12_reckon : mm_at mm_prog 231 = some mmX12_reckon := rfl
set_option maxRecDepth 20000 in
theorem mi_X12_reckon : mm_at mm_inf 231 = some (yX12_reckon, cX12_reckon, (some .int)) := rfl
theorem fm_X12_valueNow : mm_QM mmX12_valueNow yX12_valueNow cX12_valueNow (some .int) := ⟨rfl, pn_12, cn_12, wd_13, mm_wsm_in rfl wd_1805, by decide, Or.inr (Or.inl ⟨rfl, rfl⟩), fun z => absurd z (by decide), co_X12_valueNow⟩
set_option maxRecDepth 20000 in
theorem mp_X12_valueNow : mm_at mm_prog 232 = some mmX12_valueNow := rfl
set_option maxRecDepth 20000 in
theorem mi_X12_valueNow : mm_at mm_inf 232 = some (yX12_valueNow, cX12_valueNow, (some .int)) := rfl
theorem fm_X12_heatOf : mm_QM mmX12_heatOf yX12_heatOf cX12_heatOf (some .int) := ⟨rfl, pn_12, cn_12, wd_13, mm_wsm_in rfl wd_1676, by decide, Or.inr (Or.inl ⟨rfl, rfl⟩), fun z => absurd z (by decide), co_X12_heatOf⟩
set_option maxRecDepth 20000 in
theorem mp_X12_heatOf : mm_at mm_prog 233 = some mmX12_heatOf := rfl
set_option maxRecDepth 20000 in
theorem mi_X12_heatOf : mm_at mm_inf 233 = some (yX12_heatOf, cX12_heatOf, (some .int)) := rfl
theorem fm_X12_fullOf : mm_QM mmX12_fullOf yX12_fullOf cX12_fullOf (some .int) := ⟨rfl, pn_12, cn_12, wd_13, mm_wsm_in rfl wd_1688, by decide, Or.inr (Or.inl ⟨rfl, rfl⟩), fun z => absurd z (by decide), co_X12_fullOf⟩
set_option maxRecDepth 20000 in
theorem mp_X12_fullOf : mm_at mm_prog 234 = some mmX12_fullOf := rfl
set_option maxRecDepth 20000 in
theorem mi_X12_fullOf : mm_at mm_inf 234 = some (yX12_fullOf, cX12_fullOf, (some .int)) := rfl
theorem fm_X12_isFull : mm_QM mmX12_isFull yX12_isFull cX12_isFull (some .boolean) := ⟨rfl, pn_12, cn_12, wd_13, mm_wsm_in rfl wd_1684, by decide, Or.inr (Or.inr (Or.inl ⟨rfl, rfl⟩)), fun z => absurd z (by decide), co_X12_isFull⟩
set_option maxRecDepth 20000 in
theorem mp_X12_isFull : mm_at mm_prog 235 = some mmX12_isFull := rfl
set_option maxRecDepth 20000 in
theorem mi_X12_isFull : mm_at mm_inf 235 = some (yX12_isFull, cX12_isFull, (some .boolean)) := rfl
theorem fm_X12_growsOf : mm_QM mmX12_growsOf yX12_growsOf cX12_growsOf (some .int) := ⟨rfl, pn_12, cn_12, wd_13, mm_wsm_in rfl wd_1797, by decide, Or.inr (Or.inl ⟨rfl, rfl⟩), fun z => absurd z (by decide), co_X12_growsOf⟩
set_option maxRecDepth 20000 in
theorem mp_X12_growsOf : mm_at mm_prog 236 = some mmX12_growsOf := rfl
set_option maxRecDepth 20000 in
theorem mi_X12_growsOf : mm_at mm_inf 236 = some (yX12_growsOf, cX12_growsOf, (some .int)) := rfl
theorem fm_X12_aDayOf : mm_QM mmX12_aDayOf yX12_aDayOf cX12_aDayOf none := ⟨rfl, pn_12, cn_12, wd_13, mm_wsm_in rfl wd_1793, by decide, Or.inl ⟨Or.inl rfl, rfl⟩, fun z => absurd z (by decide), co_X12_aDayOf⟩
set_option maxRecDepth 20000 in
theorem mp_X12_aDayOf : mm_at mm_prog 237 = some mmX12_aDayOf := rfl
set_option maxRecDepth 20000 in
theorem mi_X12_aDayOf : mm_at mm_inf 237 = some (yX12_aDayOf, cX12_aDayOf, none) := rfl
theorem fm_X12_goOn : mm_QM mmX12_goOn yX12_goOn cX12_goOn none := ⟨rfl, pn_12, cn_12, wd_13, mm_wsm_in rfl wd_1789, by decide, Or.inl ⟨Or.inl rfl, rfl⟩, fun z => absurd z (by decide), co_X12_goOn⟩
set_option maxRecDepth 20000 in
theorem mp_X12_goOn : mm_at mm_prog 238 = some mmX12_goOn := rfl
set_option maxRecDepth 20000 in
theorem mi_X12_goOn : mm_at mm_inf 238 = some (yX12_goOn, cX12_goOn, none) := rfl
theorem fm_X12_fullOnes : mm_QM mmX12_fullOnes yX12_fullOnes cX12_fullOnes (some .int) := ⟨rfl, pn_12, cn_12, wd_13, mm_wsm_in rfl wd_1680, by decide, Or.inr (Or.inl ⟨rfl, rfl⟩), fun z => absurd z (by decide), co_X12_fullOnes⟩
set_option maxRecDepth 20000 in
theorem mp_X12_fullOnes : mm_at mm_prog 239 = some mmX12_fullOnes := rfl
set_option maxRecDepth 20000 in
theorem mi_X12_fullOnes : mm_at mm_inf 239 = some (yX12_fullOnes, cX12_fullOnes, (some .int)) := rfl
theorem fm_X12_blendSize : mm_QM mmX12_blendSize yX12_blendSize cX12_blendSize (some .int) := ⟨rfl, pn_12, cn_12, wd_13, mm_wsm_in rfl wd_1700, by decide, Or.inr (Or.inl ⟨rfl, rfl⟩), fun z => absurd z (by decide), co_X12_blendSize⟩
set_option maxRecDepth 20000 in
theorem mp_X12_blendSize : mm_at mm_prog 240 = some mmX12_blendSize := rfl
set_option maxRecDepth 20000 in
theorem mi_X12_blendSize : mm_at mm_inf 240 = some (yX12_blendSize, cX12_blendSize, (some .int)) := rfl
theorem fm_X12_allLetters : mm_QM mmX12_allLetters yX12_allLetters cX12_allLetters (some .int) := ⟨rfl, pn_12, cn_12, wd_13, mm_wsm_in rfl wd_1696, by decide, Or.inr (Or.inl ⟨rfl, rfl⟩), fun z => absurd z (by decide), co_X12_allLetters⟩
set_option maxRecDepth 20000 in
theorem mp_X12_allLetters : mm_at mm_prog 241 = some mmX12_allLetters := rfl
set_option maxRecDepth 20000 in
theorem mi_X12_allLetters : mm_at mm_inf 241 = some (yX12_allLetters, cX12_allLetters, (some .int)) := rfl
theorem fm_X12_treaties : mm_QM mmX12_treaties yX12_treaties cX12_treaties (some .int) := ⟨rfl, pn_12, cn_12, wd_13, mm_wsm_in rfl wd_1692, by decide, Or.inr (Or.inl ⟨rfl, rfl⟩), fun z => absurd z (by decide), co_X12_treaties⟩
set_option maxRecDepth 20000 in
theorem mp_X12_treaties : mm_at mm_prog 242 = some mmX12_treaties := rfl
set_option maxRecDepth 20000 in
theorem mi_X12_treaties : mm_at mm_inf 242 = some (yX12_treaties, cX12_treaties, (some .int)) := rfl
theorem fm_X12_count : mm_QM mmX12_count yX12_count cX12_count (some .int) := ⟨rfl, pn_12, cn_12, wd_13, mm_wsm_in rfl wd_1672, by decide, Or.inr (Or.inl ⟨rfl, rfl⟩), fun z => absurd z (by decide), co_X12_count⟩
set_option maxRecDepth 20000 in
theorem mp_X12_count : mm_at mm_prog 243 = some mmX12_count := rfl
set_option maxRecDepth 20000 in
theorem mi_X12_count : mm_at mm_inf 243 = some (yX12_count, cX12_count, (some .int)) := rfl
theorem fm_X12_word : mm_QM mmX12_word yX12_word cX12_word (some .int) := ⟨rfl, pn_12, cn_12, wd_13, mm_wsm_in rfl wd_1704, by decide, Or.inr (Or.inl ⟨rfl, rfl⟩), fun z => absurd z (by decide), co_X12_word⟩
set_option maxRecDepth 20000 in
theorem mp_X12_word : mm_at mm_prog 244 = some mmX12_word := rfl
set_option maxRecDepth 20000 in
theorem mi_X12_word : mm_at mm_inf 244 = some (yX12_word, cX12_word, (some .int)) := rfl
theorem fm_X12_letter : mm_QM mmX12_letter yX12_letter cX12_letter (some .int) := ⟨rfl, pn_12, cn_12, wd_13, mm_wsm_in rfl wd_1740, by decide, Or.inr (Or.inl ⟨rfl, rfl⟩), fun z => absurd z (by decide), co_X12_letter⟩
set_option maxRecDepth 20000 in
theorem mp_X12_letter : mm_at mm_prog 245 = some mmX12_letter := rfl
set_option maxRecDepth 20000 in
theorem mi_X12_letter : mm_at mm_inf 245 = some (yX12_letter, cX12_letter, (some .int)) := rfl
theorem fm_X12_trunk : mm_QM mmX12_trunk yX12_trunk cX12_trunk (some .int) := ⟨rfl, pn_12, cn_12, wd_13, mm_wsm_in rfl wd_1744, by decide, Or.inr (Or.inl ⟨rfl, rfl⟩), fun z => absurd z (by decide), co_X12_trunk⟩
set_option maxRecDepth 20000 in
theorem mp_X12_trunk : mm_at mm_prog 246 = some mmX12_trunk := rfl
set_option maxRecDepth 20000 in
theorem mi_X12_trunk : mm_at mm_inf 246 = some (yX12_trunk, cX12_trunk, (some .int)) := rfl
theorem fm_X12_refuse : mm_QM mmX12_refuse yX12_refuse cX12_refuse (some .int) := ⟨rfl, pn_12, cn_12, wd_13, mm_wsm_in rfl wd_1777, by decide, Or.inr (Or.inl ⟨rfl, rfl⟩), fun z => absurd z (by decide), co_X12_refuse⟩
set_option maxRecDepth 20000 in
theorem mp_X12_refuse : mm_at mm_prog 247 = some mmX12_refuse := rfl
set_option maxRecDepth 20000 in
theorem mi_X12_refuse : mm_at mm_inf 247 = some (yX12_refuse, cX12_refuse, (some .int)) := rfl
theorem fm_X12_keep : mm_QM mmX12_keep yX12_keep cX12_keep none := ⟨rfl, pn_12, cn_12, wd_13, mm_wsm_in rfl wd_1781, by decide, Or.inl ⟨Or.inl rfl, rfl⟩, fun z => absurd z (by decide), co_X12_keep⟩
set_option maxRecDepth 20000 in
theorem mp_X12_keep : mm_at mm_prog 248 = some mmX12_keep := rfl
set_option maxRecDepth 20000 in
theorem mi_X12_keep : mm_at mm_inf 248 = some (yX12_keep, cX12_keep, none) := rfl
theorem fm_X12_days : mm_QM mmX12_days yX12_days cX12_days (some .int) := ⟨rfl, pn_12, cn_12, wd_13, mm_wsm_in rfl wd_1772, by decide, Or.inr (Or.inl ⟨rfl, rfl⟩), fun z => absurd z (by decide), co_X12_days⟩
set_option maxRecDepth 20000 in
theorem mp_X12_days : mm_at mm_prog 249 = some mmX12_days := rfl
set_option maxRecDepth 20000 in
theorem mi_X12_days : mm_at mm_inf 249 = some (yX12_days, cX12_days, (some .int)) := rfl
theorem fm_X12_draw : mm_QM mmX12_draw yX12_draw cX12_draw (some .int) := ⟨rfl, pn_12, cn_12, wd_13, mm_wsm_in rfl wd_1812, by decide, Or.inr (Or.inl ⟨rfl, rfl⟩), fun z => absurd z (by decide), co_X12_draw⟩
set_option maxRecDepth 20000 in
theorem mp_X12_draw : mm_at mm_prog 250 = some mmX12_draw := rfl
set_option maxRecDepth 20000 in
theorem mi_X12_draw : mm_at mm_inf 250 = some (yX12_draw, cX12_draw, (some .int)) := rfl
theorem fm_X12_pull : mm_QM mmX12_pull yX12_pull cX12_pull (some .int) := ⟨rfl, pn_12, cn_12, wd_13, mm_wsm_in rfl wd_1817, by decide, Or.inr (Or.inl ⟨rfl, rfl⟩), fun z => absurd z (by decide), co_X12_pull⟩
set_option maxRecDepth 20000 in
theorem mp_X12_pull : mm_at mm_prog 251 = some mmX12_pull := rfl
set_option maxRecDepth 20000 in
theorem mi_X12_pull : mm_at mm_inf 251 = some (yX12_pull, cX12_pull, (some .int)) := rfl
theorem fm_X12_turnRound : mm_QM mmX12_turnRound yX12_turnRound cX12_turnRound none := ⟨rfl, pn_12, cn_12, wd_13, mm_wsm_in rfl wd_1825, by decide, Or.inl ⟨Or.inl rfl, rfl⟩, fun z => absurd z (by decide), co_X12_turnRound⟩
set_option maxRecDepth 20000 in
theorem mp_X12_turnRound : mm_at mm_prog 252 = some mmX12_turnRound := rfl
set_option maxRecDepth 20000 in
theorem mi_X12_turnRound : mm_at mm_inf 252 = some (yX12_turnRound, cX12_turnRound, none) := rfl
theorem fm_X12_turn : mm_QM mmX12_turn yX12_turn cX12_turn (some .int) := ⟨rfl, pn_12, cn_12, wd_13, mm_wsm_in rfl wd_1821, by decide, Or.inr (Or.inl ⟨rfl, rfl⟩), fun z => absurd z (by decide), co_X12_turn⟩
set_option maxRecDepth 20000 in
theorem mp_X12_turn : mm_at mm_prog 253 = some mmX12_turn := rfl
set_option maxRecDepth 20000 in
theorem mi_X12_turn : mm_at mm_inf 253 = some (yX12_turn, cX12_turn, (some .int)) := rfl
theorem fm_X12_packIn : mm_QM mmX12_packIn yX12_packIn cX12_packIn none := ⟨rfl, pn_12, cn_12, wd_13, mm_wsm_in rfl wd_1833, by decide, Or.inl ⟨Or.inl rfl, rfl⟩, fun z => absurd z (by decide), co_X12_packIn⟩
set_option maxRecDepth 20000 in
theorem mp_X12_packIn : mm_at mm_prog 254 = some mmX12_packIn := rfl
set_option maxRecDepth 20000 in
theorem mi_X12_packIn : mm_at mm_inf 254 = some (yX12_packIn, cX12_packIn, none) := rfl
theorem fm_X12_pack : mm_QM mmX12_pack yX12_pack cX12_pack (some .int) := ⟨rfl, pn_12, cn_12, wd_13, mm_wsm_in rfl wd_1829, by decide, Or.inr (Or.inl ⟨rfl, rfl⟩), fun z => absurd z (by decide), co_X12_pack⟩
set_option maxRecDepth 20000 in
theorem mp_X12_pack : mm_at mm_prog 255 = some mmX12_pack := rfl
set_option maxRecDepth 20000 in
theorem mi_X12_pack : mm_at mm_inf 255 = some (yX12_pack, cX12_pack, (some .int)) := rfl
theorem fm_X12_undo : mm_QM mmX12_undo yX12_undo cX12_undo (some .int) := ⟨rfl, pn_12, cn_12, wd_13, mm_wsm_in rfl wd_1837, by decide, Or.inr (Or.inl ⟨rfl, rfl⟩), fun z => absurd z (by decide), co_X12_undo⟩
set_option maxRecDepth 20000 in
theorem mp_X12_undo : mm_at mm_prog 256 = some mmX12_undo := rfl
set_option maxRecDepth 20000 in
theorem mi_X12_undo : mm_at mm_inf 256 = some (yX12_undo, cX12_undo, (some .int)) := rfl
theorem fm_X12_nearest : mm_QM mmX12_nearest yX12_nearest cX12_nearest (some .int) := ⟨rfl, pn_12, cn_12, wd_13, mm_wsm_in rfl wd_1851, by decide, Or.inr (Or.inl ⟨rfl, rfl⟩), fun z => absurd z (by decide), co_X12_nearest⟩
set_option maxRecDepth 20000 in
theorem mp_X12_nearest : mm_at mm_prog 257 = some mmX12_nearest := rfl
set_option maxRecDepth 20000 in
theorem mi_X12_nearest : mm_at mm_inf 257 = some (yX12_nearest, cX12_nearest, (some .int)) := rfl
theorem fm_X12_then : mm_QM mmX12_then yX12_then cX12_then (some .int) := ⟨rfl, pn_12, cn_12, wd_13, mm_wsm_in rfl wd_1845, by decide, Or.inr (Or.inl ⟨rfl, rfl⟩), fun z => absurd z (by decide), co_X12_then⟩
set_option maxRecDepth 20000 in
theorem mp_X12_then : mm_at mm_prog 258 = some mmX12_then := rfl
set_option maxRecDepth 20000 in
theorem mi_X12_then : mm_at mm_inf 258 = some (yX12_then, cX12_then, (some .int)) := rfl
theorem fm_X12_blend : mm_QM mmX12_blend yX12_blend cX12_blend (some .int) := ⟨rfl, pn_12, cn_12, wd_13, mm_wsm_in rfl wd_1855, by decide, Or.inr (Or.inl ⟨rfl, rfl⟩), fun z => absurd z (by decide), co_X12_blend⟩
set_option maxRecDepth 20000 in
theorem mp_X12_blend : mm_at mm_prog 259 = some mmX12_blend := rfl
set_option maxRecDepth 20000 in
theorem mi_X12_blend : mm_at mm_inf 259 = some (yX12_blend, cX12_blend, (some .int)) := rfl
theorem fm_X12_allGrown : mm_QM mmX12_allGrown yX12_allGrown cX12_allGrown (some .int) := ⟨rfl, pn_12, cn_12, wd_13, mm_wsm_in rfl wd_1864, by decide, Or.inr (Or.inl ⟨rfl, rfl⟩), fun z => absurd z (by decide), co_X12_allGrown⟩
set_option maxRecDepth 20000 in
theorem mp_X12_allGrown : mm_at mm_prog 260 = some mmX12_allGrown := rfl
set_option maxRecDepth 20000 in
theorem mi_X12_allGrown : mm_at mm_inf 260 = some (yX12_allGrown, cX12_allGrown, (some .int)) := rfl
theorem fm_X12_longestNow : mm_QM mmX12_longestNow yX12_longestNow cX12_longestNow (some .int) := ⟨rfl, pn_12, cn_12, wd_13, mm_wsm_in rfl wd_1868, by decide, Or.inr (Or.inl ⟨rfl, rfl⟩), fun z => absurd z (by decide), co_X12_longestNow⟩
set_option maxRecDepth 20000 in
theorem mp_X12_longestNow : mm_at mm_prog 261 = some mmX12_longestNow := rfl
set_option maxRecDepth 20000 in
theorem mi_X12_longestNow : mm_at mm_inf 261 = some (yX12_longestNow, cX12_longestNow, (some .int)) := rfl
theorem fm_X12_later : mm_QM mmX12_later yX12_later cX12_later (some .int) := ⟨rfl, pn_12, cn_12, wd_13, mm_wsm_in rfl wd_1859, by decide, Or.inr (Or.inl ⟨rfl, rfl⟩), fun z => absurd z (by decide), co_X12_later⟩
set_option maxRecDepth 20000 in
theorem mp_X12_later : mm_at mm_prog 262 = some mmX12_later := rfl
set_option maxRecDepth 20000 in
theorem mi_X12_later : mm_at mm_inf 262 = some (yX12_later, cX12_later, (some .int)) := rfl
theorem fm_X12_full : mm_QM mmX12_full yX12_full cX12_full (some .int) := ⟨rfl, pn_12, cn_12, wd_13, mm_wsm_in rfl wd_1872, by decide, Or.inr (Or.inl ⟨rfl, rfl⟩), fun z => absurd z (by decide), co_X12_full⟩
set_option maxRecDepth 20000 in
theorem mp_X12_full : mm_at mm_prog 263 = some mmX12_full := rfl
set_option maxRecDepth 20000 in
theorem mi_X12_full : mm_at mm_inf 263 = some (yX12_full, cX12_full, (some .int)) := rfl
theorem fm_X12_read : mm_QM mmX12_read yX12_read cX12_read (some .int) := ⟨rfl, pn_12, cn_12, wd_13, mm_wsm_in rfl wd_1876, by decide, Or.inr (Or.inl ⟨rfl, rfl⟩), fun z => absurd z (by decide), co_X12_read⟩
set_option maxRecDepth 20000 in
theorem mp_X12_read : mm_at mm_prog 264 = some mmX12_read := rfl
set_option maxRecDepth 20000 in
theorem mi_X12_read : mm_at mm_inf 264 = some (yX12_read, cX12_read, (some .int)) := rfl
theorem fm_X12_alike : mm_QM mmX12_alike yX12_alike cX12_alike (some .int) := ⟨rfl, pn_12, cn_12, wd_13, mm_wsm_in rfl wd_1880, by decide, Or.inr (Or.inl ⟨rfl, rfl⟩), fun z => absurd z (by decide), co_X12_alike⟩
set_option maxRecDepth 20000 in
theorem mp_X12_alike : mm_at mm_prog 265 = some mmX12_alike := rfl
set_option maxRecDepth 20000 in
theorem mi_X12_alike : mm_at mm_inf 265 = some (yX12_alike, cX12_alike, (some .int)) := rfl
theorem fm_X12_both : mm_QM mmX12_both yX12_both cX12_both (some .int) := ⟨rfl, pn_12, cn_12, wd_13, mm_wsm_in rfl wd_1888, by decide, Or.inr (Or.inl ⟨rfl, rfl⟩), fun z => absurd z (by decide), co_X12_both⟩
set_option maxRecDepth 20000 in
theorem mp_X12_both : mm_at mm_prog 266 = some mmX12_both := rfl
set_option maxRecDepth 20000 in
theorem mi_X12_both : mm_at mm_inf 266 = some (yX12_both, cX12_both, (some .int)) := rfl
theorem fm_X12_madeOn : mm_QM mmX12_madeOn yX12_madeOn cX12_madeOn (some .int) := ⟨rfl, pn_12, cn_12, wd_13, mm_wsm_in rfl wd_1905, by decide, Or.inr (Or.inl ⟨rfl, rfl⟩), fun z => absurd z (by decide), co_X12_madeOn⟩
set_option maxRecDepth 20000 in
theorem mp_X12_madeOn : mm_at mm_prog 267 = some mmX12_madeOn := rfl
set_option maxRecDepth 20000 in
theorem mi_X12_madeOn : mm_at mm_inf 267 = some (yX12_madeOn, cX12_madeOn, (some .int)) := rfl
theorem fm_X12_tellRow : mm_QM mmX12_tellRow yX12_tellRow cX12_tellRow none := ⟨rfl, pn_12, cn_12, wd_13, mm_wsm_in rfl wd_1897, by decide, Or.inl ⟨Or.inl rfl, rfl⟩, fun z => absurd z (by decide), co_X12_tellRow⟩
set_option maxRecDepth 20000 in
theorem mp_X12_tellRow : mm_at mm_prog 268 = some mmX12_tellRow := rfl
set_option maxRecDepth 20000 in
theorem mi_X12_tellRow : mm_at mm_inf 268 = some (yX12_tellRow, cX12_tellRow, none) := rfl
theorem fm_X12_pushed : mm_QM mmX12_pushed yX12_pushed cX12_pushed (some .int) := ⟨rfl, pn_12, cn_12, wd_13, mm_wsm_in rfl wd_1901, by decide, Or.inr (Or.inl ⟨rfl, rfl⟩), fun z => absurd z (by decide), co_X12_pushed⟩
set_option maxRecDepth 20000 in
theorem mp_X12_pushed : mm_at mm_prog 269 = some mmX12_pushed := rfl
set_option maxRecDepth 20000 in
theorem mi_X12_pushed : mm_at mm_inf 269 = some (yX12_pushed, cX12_pushed, (some .int)) := rfl
theorem fm_X12_row : mm_QM mmX12_row yX12_row cX12_row (some .int) := ⟨rfl, pn_12, cn_12, wd_13, mm_wsm_in rfl wd_1892, by decide, Or.inr (Or.inl ⟨rfl, rfl⟩), fun z => absurd z (by decide), co_X12_row⟩
set_option maxRecDepth 20000 in
theorem mp_X12_row : mm_at mm_prog 270 = some mmX12_row := rfl
set_option maxRecDepth 20000 in
theorem mi_X12_row : mm_at mm_inf 270 = some (yX12_row, cX12_row, (some .int)) := rfl
theorem fm_X12_follows : mm_QM mmX12_follows yX12_follows cX12_follows (some .boolean) := ⟨rfl, pn_12, cn_12, wd_13, mm_wsm_in rfl wd_1917, by decide, Or.inr (Or.inr (Or.inl ⟨rfl, rfl⟩)), fun z => absurd z (by decide), co_X12_follows⟩
set_option maxRecDepth 20000 in
theorem mp_X12_follows : mm_at mm_prog 271 = some mmX12_follows := rfl
set_option maxRecDepth 20000 in
theorem mi_X12_follows : mm_at mm_inf 271 = some (yX12_follows, cX12_follows, (some .boolean)) := rfl
theorem fm_X12_tellChain : mm_QM mmX12_tellChain yX12_tellChain cX12_tellChain none := ⟨rfl, pn_12, cn_12, wd_13, mm_wsm_in rfl wd_1913, by decide, Or.inl ⟨Or.inl rfl, rfl⟩, fun z => absurd z (by decide), co_X12_tellChain⟩
set_option maxRecDepth 20000 in
theorem mp_X12_tellChain : mm_at mm_prog 272 = some mmX12_tellChain := rfl
set_option maxRecDepth 20000 in
theorem mi_X12_tellChain : mm_at mm_inf 272 = some (yX12_tellChain, cX12_tellChain, none) := rfl
theorem fm_X12_chain : mm_QM mmX12_chain yX12_chain cX12_chain (some .int) := ⟨rfl, pn_12, cn_12, wd_13, mm_wsm_in rfl wd_1909, by decide, Or.inr (Or.inl ⟨rfl, rfl⟩), fun z => absurd z (by decide), co_X12_chain⟩
set_option maxRecDepth 20000 in
theorem mp_X12_chain : mm_at mm_prog 273 = some mmX12_chain := rfl
set_option maxRecDepth 20000 in
theorem mi_X12_chain : mm_at mm_inf 273 = some (yX12_chain, cX12_chain, (some .int)) := rfl
theorem fm_X12_toDraw : mm_QM mmX12_toDraw yX12_toDraw cX12_toDraw (some .int) := ⟨rfl, pn_12, cn_12, wd_13, mm_wsm_in rfl wd_1921, by decide, Or.inr (Or.inl ⟨rfl, rfl⟩), fun z => absurd z (by decide), co_X12_toDraw⟩
set_option maxRecDepth 20000 in
theorem mp_X12_toDraw : mm_at mm_prog 274 = some mmX12_toDraw := rfl
set_option maxRecDepth 20000 in
theorem mi_X12_toDraw : mm_at mm_inf 274 = some (yX12_toDraw, cX12_toDraw, (some .int)) := rfl
theorem fm_X12_tellCouples : mm_QM mmX12_tellCouples yX12_tellCouples cX12_tellCouples none := ⟨rfl, pn_12, cn_12, wd_13, mm_wsm_in rfl wd_1756, by decide, Or.inl ⟨Or.inl rfl, rfl⟩, fun z => absurd z (by decide), co_X12_tellCouples⟩
set_option maxRecDepth 20000 in
theorem mp_X12_tellCouples : mm_at mm_prog 275 = some mmX12_tellCouples := rfl
set_option maxRecDepth 20000 in
theorem mi_X12_tellCouples : mm_at mm_inf 275 = some (yX12_tellCouples, cX12_tellCouples, none) := rfl
theorem fm_X12_couples : mm_QM mmX12_couples yX12_couples cX12_couples (some .int) := ⟨rfl, pn_12, cn_12, wd_13, mm_wsm_in rfl wd_1925, by decide, Or.inr (Or.inl ⟨rfl, rfl⟩), fun z => absurd z (by decide), co_X12_couples⟩
set_option maxRecDepth 20000 in
theorem mp_X12_couples : mm_at mm_prog 276 = some mmX12_couples := rfl
set_option maxRecDepth 20000 in
theorem mi_X12_couples : mm_at mm_inf 276 = some (yX12_couples, cX12_couples, (some .int)) := rfl
theorem fm_X12_coupleOf : mm_QM mmX12_coupleOf yX12_coupleOf cX12_coupleOf (some .int) := ⟨rfl, pn_12, cn_12, wd_13, mm_wsm_in rfl wd_1752, by decide, Or.inr (Or.inl ⟨rfl, rfl⟩), fun z => absurd z (by decide), co_X12_coupleOf⟩
set_option maxRecDepth 20000 in
theorem mp_X12_coupleOf : mm_at mm_prog 277 = some mmX12_coupleOf := rfl
set_option maxRecDepth 20000 in
theorem mi_X12_coupleOf : mm_at mm_inf 277 = some (yX12_coupleOf, cX12_coupleOf, (some .int)) := rfl
theorem fm_X12_see : mm_QM mmX12_see yX12_see cX12_see (some .int) := ⟨rfl, pn_12, cn_12, wd_13, mm_wsm_in rfl wd_1929, by decide, Or.inr (Or.inl ⟨rfl, rfl⟩), fun z => absurd z (by decide), co_X12_see⟩
set_option maxRecDepth 20000 in
theorem mp_X12_see : mm_at mm_prog 278 = some mmX12_see := rfl
set_option maxRecDepth 20000 in
theorem mi_X12_see : mm_at mm_inf 278 = some (yX12_see, cX12_see, (some .int)) := rfl
theorem fm_X12_isAsSeen : mm_QM mmX12_isAsSeen yX12_isAsSeen cX12_isAsSeen (some .boolean) := ⟨rfl, pn_12, cn_12, wd_13, mm_wsm_in rfl wd_1938, by decide, Or.inr (Or.inr (Or.inl ⟨rfl, rfl⟩)), fun z => absurd z (by decide), co_X12_isAsSeen⟩
set_option maxRecDepth 20000 in
theorem mp_X12_isAsSeen : mm_at mm_prog 279 = some mmX12_isAsSeen := rfl
set_option maxRecDepth 20000 in
theorem mi_X12_isAsSeen : mm_at mm_inf 279 = some (yX12_isAsSeen, cX12_isAsSeen, (some .boolean)) := rfl
theorem fm_X12_tellFits : mm_QM mmX12_tellFits yX12_tellFits cX12_tellFits none := ⟨rfl, pn_12, cn_12, wd_13, mm_wsm_in rfl wd_1942, by decide, Or.inl ⟨Or.inl rfl, rfl⟩, fun z => absurd z (by decide), co_X12_tellFits⟩
set_option maxRecDepth 20000 in
theorem mp_X12_tellFits : mm_at mm_prog 280 = some mmX12_tellFits := rfl
set_option maxRecDepth 20000 in
theorem mi_X12_tellFits : mm_at mm_inf 280 = some (yX12_tellFits, cX12_tellFits, none) := rfl
theorem fm_X12_loose : mm_QM mmX12_loose yX12_loose cX12_loose (some .int) := ⟨rfl, pn_12, cn_12, wd_13, mm_wsm_in rfl wd_1934, by decide, Or.inr (Or.inl ⟨rfl, rfl⟩), fun z => absurd z (by decide), co_X12_loose⟩
set_option maxRecDepth 20000 in
theorem mp_X12_loose : mm_at mm_prog 281 = some mmX12_loose := rfl
set_option maxRecDepth 20000 in
theorem mi_X12_loose : mm_at mm_inf 281 = some (yX12_loose, cX12_loose, (some .int)) := rfl
theorem fm_X12_look : mm_QM mmX12_look yX12_look cX12_look (some .int) := ⟨rfl, pn_12, cn_12, wd_13, mm_wsm_in rfl wd_1946, by decide, Or.inr (Or.inl ⟨rfl, rfl⟩), fun z => absurd z (by decide), co_X12_look⟩
set_option maxRecDepth 20000 in
theorem mp_X12_look : mm_at mm_prog 282 = some mmX12_look := rfl
set_option maxRecDepth 20000 in
theorem mi_X12_look : mm_at mm_inf 282 = some (yX12_look, cX12_look, (some .int)) := rfl
theorem fm_X12_forget : mm_QM mmX12_forget yX12_forget cX12_forget none := ⟨rfl, pn_12, cn_12, wd_13, mm_wsm_in rfl wd_1953, by decide, Or.inl ⟨Or.inl rfl, rfl⟩, fun z => absurd z (by decide), co_X12_forget⟩
set_option maxRecDepth 20000 in
theorem mp_X12_forget : mm_at mm_prog 283 = some mmX12_forget := rfl
set_option maxRecDepth 20000 in
theorem mi_X12_forget : mm_at mm_inf 283 = some (yX12_forget, cX12_forget, none) := rfl
theorem fm_X12_seasons : mm_QM mmX12_seasons yX12_seasons cX12_seasons (some .int) := ⟨rfl, pn_12, cn_12, wd_13, mm_wsm_in rfl wd_1957, by decide, Or.inr (Or.inl ⟨rfl, rfl⟩), fun z => absurd z (by decide), co_X12_seasons⟩
set_option maxRecDepth 20000 in
theorem mp_X12_seasons : mm_at mm_prog 284 = some mmX12_seasons := rfl
set_option maxRecDepth 20000 in
theorem mi_X12_seasons : mm_at mm_inf 284 = some (yX12_seasons, cX12_seasons, (some .int)) := rfl
theorem fm_X12_tellGains : mm_QM mmX12_tellGains yX12_tellGains cX12_tellGains none := ⟨rfl, pn_12, cn_12, wd_13, mm_wsm_in rfl wd_1967, by decide, Or.inl ⟨Or.inl rfl, rfl⟩, fun z => absurd z (by decide), co_X12_tellGains⟩
set_option maxRecDepth 20000 in
theorem mp_X12_tellGains : mm_at mm_prog 285 = some mmX12_tellGains := rfl
set_option maxRecDepth 20000 in
theorem mi_X12_tellGains : mm_at mm_inf 285 = some (yX12_tellGains, cX12_tellGains, none) := rfl
theorem fm_X12_game : mm_QM mmX12_game yX12_game cX12_game (some .int) := ⟨rfl, pn_12, cn_12, wd_13, mm_wsm_in rfl wd_1963, by decide, Or.inr (Or.inl ⟨rfl, rfl⟩), fun z => absurd z (by decide), co_X12_game⟩
set_option maxRecDepth 20000 in
theorem mp_X12_game : mm_at mm_prog 286 = some mmX12_game := rfl
set_option maxRecDepth 20000 in
theorem mi_X12_game : mm_at mm_inf 286 = some (yX12_game, cX12_game, (some .int)) := rfl
theorem fm_X12_drawOf : mm_QM mmX12_drawOf yX12_drawOf cX12_drawOf (some .int) := ⟨rfl, pn_12, cn_12, wd_13, mm_wsm_in rfl wd_1979, by decide, Or.inr (Or.inl ⟨rfl, rfl⟩), fun z => absurd z (by decide), co_X12_drawOf⟩
set_option maxRecDepth 20000 in
theorem mp_X12_drawOf : mm_at mm_prog 287 = some mmX12_drawOf := rfl
set_option maxRecDepth 20000 in
theorem mi_X12_drawOf : mm_at mm_inf 287 = some (yX12_drawOf, cX12_drawOf, (some .int)) := rfl
theorem fm_X12_something : mm_QM mmX12_something yX12_something cX12_something none := ⟨rfl, pn_12, cn_12, wd_13, mm_wsm_in rfl wd_1975, by decide, Or.inl ⟨Or.inl rfl, rfl⟩, fun z => absurd z (by decide), co_X12_something⟩
set_option maxRecDepth 20000 in
theorem mp_X12_something : mm_at mm_prog 288 = some mmX12_something := rfl
set_option maxRecDepth 20000 in
theorem mi_X12_something : mm_at mm_inf 288 = some (yX12_something, cX12_something, none) := rfl
theorem fm_X12_years : mm_QM mmX12_years yX12_years cX12_years (some .int) := ⟨rfl, pn_12, cn_12, wd_13, mm_wsm_in rfl wd_1971, by decide, Or.inr (Or.inl ⟨rfl, rfl⟩), fun z => absurd z (by decide), co_X12_years⟩
set_option maxRecDepth 20000 in
theorem mp_X12_years : mm_at mm_prog 289 = some mmX12_years := rfl
set_option maxRecDepth 20000 in
theorem mi_X12_years : mm_at mm_inf 289 = some (yX12_years, cX12_years, (some .int)) := rfl
theorem fm_X12_copyTo : mm_QM mmX12_copyTo yX12_copyTo cX12_copyTo none := ⟨rfl, pn_12, cn_12, wd_13, mm_wsm_in rfl wd_1987, by decide, Or.inl ⟨Or.inl rfl, rfl⟩, fun z => absurd z (by decide), co_X12_copyTo⟩
set_option maxRecDepth 20000 in
theorem mp_X12_copyTo : mm_at mm_prog 290 = some mmX12_copyTo := rfl
set_option maxRecDepth 20000 in
theorem mi_X12_copyTo : mm_at mm_inf 290 = some (yX12_copyTo, cX12_copyTo, none) := rfl
theorem fm_X12_image : mm_QM mmX12_image yX12_image cX12_image none := ⟨rfl, pn_12, cn_12, wd_13, mm_wsm_in rfl wd_1984, by decide, Or.inl ⟨Or.inl rfl, rfl⟩, fun z => absurd z (by decide), co_X12_image⟩
set_option maxRecDepth 20000 in
theorem mp_X12_image : mm_at mm_prog 291 = some mmX12_image := rfl
set_option maxRecDepth 20000 in
theorem mi_X12_image : mm_at mm_inf 291 = some (yX12_image, cX12_image, none) := rfl
theorem fm_X12_restore : mm_QM mmX12_restore yX12_restore cX12_restore (some .boolean) := ⟨rfl, pn_12, cn_12, wd_13, mm_wsm_in rfl wd_1991, by decide, Or.inr (Or.inr (Or.inl ⟨rfl, rfl⟩)), fun z => absurd z (by decide), co_X12_restore⟩
set_option maxRecDepth 20000 in
theorem mp_X12_restore : mm_at mm_prog 292 = some mmX12_restore := rfl
set_option maxRecDepth 20000 in
theorem mi_X12_restore : mm_at mm_inf 292 = some (yX12_restore, cX12_restore, (some .boolean)) := rfl
theorem pn_13 : plainName yJ6_bitCount_0f7a4.cls = true := by decide +kernel
theorem cn_13 : yJ6_bitCount_0f7a4.cls ≠ "java/lang/invoke/MethodHandle" ∧ yJ6_bitCount_0f7a4.cls ≠ "java/lang/invoke/VarHandle" := by decide +kernel
theorem fm_J6_bitCount : mm_QM mmJ6_bitCount yJ6_bitCount_0f7a4 cJ6_bitCount_0f7a4 (some .int) := ⟨rfl, pn_13, cn_13, wd_24, mm_wsm_in rfl wd_558, by decide, Or.inr (Or.inl ⟨rfl, rfl⟩), fun z => absurd z (by decide), co_J6_bitCount⟩
set_option maxRecDepth 20000 in
theorem mp_J6_bitCount : mm_at mm_prog 293 = some mmJ6_bitCount := rfl
set_option maxRecDepth 20000 in
theorem mi_J6_bitCount : mm_at mm_inf 293 = some (yJ6_bitCount_0f7a4, cJ6_bitCount_0f7a4, (some .int)) := rfl
theorem pn_14 : plainName yJ0_length_8abf5.cls = true := by decide +kernel
theorem cn_14 : yJ0_length_8abf5.cls ≠ "java/lang/invoke/MethodHandle" ∧ yJ0_length_8abf5.cls ≠ "java/lang/invoke/VarHandle" := by decide +kernel
theorem fm_J0_length : mm_QM mmJ0_length yJ0_length_8abf5 cJ0_length_8abf5 (some .int) := ⟨rfl, pn_14, cn_14, wd_18, mm_wsm_in rfl wd_750, by decide, Or.inr (Or.inl ⟨rfl, rfl⟩), fun z => absurd z (by decide), co_J0_length⟩
set_option maxRecDepth 20000 in
theorem mp_J0_length : mm_at mm_prog 294 = some mmJ0_length := rfl
set_option maxRecDepth 20000 in
theorem mi_J0_length : mm_at mm_inf 294 = some (yJ0_length_8abf5, cJ0_length_8abf5, (some .int)) := rfl
theorem fm_J0_charAt : mm_QM mmJ0_charAt yJ0_charAt_5068e cJ0_charAt_5068e (some .char) := ⟨rfl, pn_14, cn_14, wd_18, mm_wsm_in rfl wd_760, by decide, Or.inr (Or.inr (Or.inr (Or.inr (Or.inl ⟨rfl, rfl⟩)))), fun z => absurd z (by decide), co_J0_charAt⟩
set_option maxRecDepth 20000 in
theorem mp_J0_charAt : mm_at mm_prog 295 = some mmJ0_charAt := rfl
set_option maxRecDepth 20000 in
theorem mi_J0_charAt : mm_at mm_inf 295 = some (yJ0_charAt_5068e, cJ0_charAt_5068e, (some .char)) := rfl
theorem fm_J0_coder : mm_QM mmJ0_coder yJ0_coder_7d493 cJ0_coder_7d493 (some .byte) := ⟨rfl, pn_14, cn_14, wd_18, mm_wsm_in rfl wd_754, by decide, Or.inr (Or.inr (Or.inr (Or.inr (Or.inr ⟨rfl, rfl⟩)))), fun z => absurd z (by decide), co_J0_coder⟩
set_option maxRecDepth 20000 in
theorem mp_J0_coder : mm_at mm_prog 296 = some mmJ0_coder := rfl
set_option maxRecDepth 20000 in
theorem mi_J0_coder : mm_at mm_inf 296 = some (yJ0_coder_7d493, cJ0_coder_7d493, (some .byte)) := rfl
theorem fm_J0_isLatin1 : mm_QM mmJ0_isLatin1 yJ0_isLatin1_aae02 cJ0_isLatin1_aae02 (some .boolean) := ⟨rfl, pn_14, cn_14, wd_18, mm_wsm_in rfl wd_764, by decide, Or.inr (Or.inr (Or.inl ⟨rfl, rfl⟩)), fun z => absurd z (by decide), co_J0_isLatin1⟩
set_option maxRecDepth 20000 in
theorem mp_J0_isLatin1 : mm_at mm_prog 297 = some mmJ0_isLatin1 := rfl
set_option maxRecDepth 20000 in
theorem mi_J0_isLatin1 : mm_at mm_inf 297 = some (yJ0_isLatin1_aae02, cJ0_isLatin1_aae02, (some .boolean)) := rfl
theorem fm_J0_checkIndex : mm_QM mmJ0_checkIndex yJ0_checkIndex_df160 cJ0_checkIndex_df160 none := ⟨rfl, pn_14, cn_14, wd_18, mm_wsm_in rfl wd_770, by decide, Or.inl ⟨Or.inl rfl, rfl⟩, fun z => absurd z (by decide), co_J0_checkIndex⟩
set_option maxRecDepth 20000 in
theorem mp_J0_checkIndex : mm_at mm_prog 298 = some mmJ0_checkIndex := rfl
set_option maxRecDepth 20000 in
theorem mi_J0_checkIndex : mm_at mm_inf 298 = some (yJ0_checkIndex_df160, cJ0_checkIndex_df160, none) := rfl
theorem pn_15 : plainName yJ1_charAt_3b067.cls = true := by decide +kernel
theorem cn_15 : yJ1_charAt_3b067.cls ≠ "java/lang/invoke/MethodHandle" ∧ yJ1_charAt_3b067.cls ≠ "java/lang/invoke/VarHandle" := by decide +kernel
theorem fm_J1_charAt : mm_QM mmJ1_charAt yJ1_charAt_3b067 cJ1_charAt_3b067 (some .char) := ⟨rfl, pn_15, cn_15, wd_19, mm_wsm_in rfl wd_767, by decide, Or.inr (Or.inr (Or.inr (Or.inr (Or.inl ⟨rfl, rfl⟩)))), fun z => absurd z (by decide), co_J1_charAt⟩
set_option maxRecDepth 20000 in
theorem mp_J1_charAt : mm_at mm_prog 299 = some mmJ1_charAt := rfl
set_option maxRecDepth 20000 in
theorem mi_J1_charAt : mm_at mm_inf 299 = some (yJ1_charAt_3b067, cJ1_charAt_3b067, (some .char)) := rfl
theorem pn_16 : plainName yJ3_checkIndex_8e157.cls = true := by decide +kernel
theorem cn_16 : yJ3_checkIndex_8e157.cls ≠ "java/lang/invoke/MethodHandle" ∧ yJ3_checkIndex_8e157.cls ≠ "java/lang/invoke/VarHandle" := by decide +kernel
theorem fm_J3_checkIndex : mm_QM mmJ3_checkIndex yJ3_checkIndex_8e157 cJ3_checkIndex_8e157 (some .int) := ⟨rfl, pn_16, cn_16, wd_20, mm_wsm_in rfl wd_775, by decide, Or.inr (Or.inl ⟨rfl, rfl⟩), fun z => absurd z (by decide), co_J3_checkIndex⟩
set_option maxRecDepth 20000 in
theorem mp_J3_checkIndex : mm_at mm_prog 300 = some mmJ3_checkIndex := rfl
set_option maxRecDepth 20000 in
theorem mi_J3_checkIndex : mm_at mm_inf 300 = some (yJ3_checkIndex_8e157, cJ3_checkIndex_8e157, (some .int)) := rfl
theorem pn_17 : plainName yL_baggage.cls = true := by decide +kernel
theorem cn_17 : yL_baggage.cls ≠ "java/lang/invoke/MethodHandle" ∧ yL_baggage.cls ≠ "java/lang/invoke/VarHandle" := by decide +kernel
theorem fm_L_baggage : mm_QM mmL_baggage yL_baggage cL_baggage (some .int) := ⟨rfl, pn_17, cn_17, wd_0, mm_wsm_in rfl wd_610, by decide, Or.inr (Or.inl ⟨rfl, rfl⟩), fun z => absurd z (by decide), co_L_baggage⟩
set_option maxRecDepth 20000 in
theorem mp_L_baggage : mm_at mm_prog 301 = some mmL_baggage := rfl
set_option maxRecDepth 20000 in
theorem mi_L_baggage : mm_at mm_inf 301 = some (yL_baggage, cL_baggage, (some .int)) := rfl
theorem fm_L_count : mm_QM mmL_count yL_count cL_count (some .int) := ⟨rfl, pn_17, cn_17, wd_0, mm_wsm_in rfl wd_974, by decide, Or.inr (Or.inl ⟨rfl, rfl⟩), fun z => absurd z (by decide), co_L_count⟩
set_option maxRecDepth 20000 in
theorem mp_L_count : mm_at mm_prog 302 = some mmL_count := rfl
set_option maxRecDepth 20000 in
theorem mi_L_count : mm_at mm_inf 302 = some (yL_count, cL_count, (some .int)) := rfl
theorem fm_L_word : mm_QM mmL_word yL_word cL_word (some .int) := ⟨rfl, pn_17, cn_17, wd_0, mm_wsm_in rfl wd_1030, by decide, Or.inr (Or.inl ⟨rfl, rfl⟩), fun z => absurd z (by decide), co_L_word⟩
set_option maxRecDepth 20000 in
theorem mp_L_word : mm_at mm_prog 303 = some mmL_word := rfl
set_option maxRecDepth 20000 in
theorem mi_L_word : mm_at mm_inf 303 = some (yL_word, cL_word, (some .int)) := rfl
theorem fm_L_letter : mm_QM mmL_letter yL_letter cL_letter (some .int) := ⟨rfl, pn_17, cn_17, wd_0, mm_wsm_in rfl wd_1068, by decide, Or.inr (Or.inl ⟨rfl, rfl⟩), fun z => absurd z (by decide), co_L_letter⟩
set_option maxRecDepth 20000 in
theorem mp_L_letter : mm_at mm_prog 304 = some mmL_letter := rfl
set_option maxRecDepth 20000 in
theorem mi_L_letter : mm_at mm_inf 304 = some (yL_letter, cL_letter, (some .int)) := rfl
theorem fm_L_trunk : mm_QM mmL_trunk yL_trunk cL_trunk (some .int) := ⟨rfl, pn_17, cn_17, wd_0, mm_wsm_in rfl wd_1076, by decide, Or.inr (Or.inl ⟨rfl, rfl⟩), fun z => absurd z (by decide), co_L_trunk⟩
set_option maxRecDepth 20000 in
theorem mp_L_trunk : mm_at mm_prog 305 = some mmL_trunk := rfl
set_option maxRecDepth 20000 in
theorem mi_L_trunk : mm_at mm_inf 305 = some (yL_trunk, cL_trunk, (some .int)) := rfl
theorem fm_L_draw : mm_QM mmL_draw yL_draw cL_draw (some .int) := ⟨rfl, pn_17, cn_17, wd_0, mm_wsm_in rfl wd_1093, by decide, Or.inr (Or.inl ⟨rfl, rfl⟩), fun z => absurd z (by decide), co_L_draw⟩
set_option maxRecDepth 20000 in
theorem mp_L_draw : mm_at mm_prog 306 = some mmL_draw := rfl
set_option maxRecDepth 20000 in
theorem mi_L_draw : mm_at mm_inf 306 = some (yL_draw, cL_draw, (some .int)) := rfl
theorem fm_L_pull : mm_QM mmL_pull yL_pull cL_pull (some .int) := ⟨rfl, pn_17, cn_17, wd_0, mm_wsm_in rfl wd_1100, by decide, Or.inr (Or.inl ⟨rfl, rfl⟩), fun z => absurd z (by decide), co_L_pull⟩
set_option maxRecDepth 20000 in
theorem mp_L_pull : mm_at mm_prog 307 = some mmL_pull := rfl
set_option maxRecDepth 20000 in
theorem mi_L_pull : mm_at mm_inf 307 = some (yL_pull, cL_pull, (some .int)) := rfl
theorem fm_L_turn : mm_QM mmL_turn yL_turn cL_turn (some .int) := ⟨rfl, pn_17, cn_17, wd_0, mm_wsm_in rfl wd_1109, by decide, Or.inr (Or.inl ⟨rfl, rfl⟩), fun z => absurd z (by decide), co_L_turn⟩
set_option maxRecDepth 20000 in
theorem mp_L_turn : mm_at mm_prog 308 = some mmL_turn := rfl
set_option maxRecDepth 20000 in
theorem mi_L_turn : mm_at mm_inf 308 = some (yL_turn, cL_turn, (some .int)) := rfl
theorem fm_L_pack : mm_QM mmL_pack yL_pack cL_pack (some .int) := ⟨rfl, pn_17, cn_17, wd_0, mm_wsm_in rfl wd_1120, by decide, Or.inr (Or.inl ⟨rfl, rfl⟩), fun z => absurd z (by decide), co_L_pack⟩
set_option maxRecDepth 20000 in
theorem mp_L_pack : mm_at mm_prog 309 = some mmL_pack := rfl
set_option maxRecDepth 20000 in
theorem mi_L_pack : mm_at mm_inf 309 = some (yL_pack, cL_pack, (some .int)) := rfl
theorem fm_L_then : mm_QM mmL_then yL_then cL_then (some .int) := ⟨rfl, pn_17, cn_17, wd_0, mm_wsm_in rfl wd_1131, by decide, Or.inr (Or.inl ⟨rfl, rfl⟩), fun z => absurd z (by decide), co_L_then⟩
set_option maxRecDepth 20000 in
theorem mp_L_then : mm_at mm_prog 310 = some mmL_then := rfl
set_option maxRecDepth 20000 in
theorem mi_L_then : mm_at mm_inf 310 = some (yL_then, cL_then, (some .int)) := rfl
theorem fm_L_blend : mm_QM mmL_blend yL_blend cL_blend (some .int) := ⟨rfl, pn_17, cn_17, wd_0, mm_wsm_in rfl wd_1155, by decide, Or.inr (Or.inl ⟨rfl, rfl⟩), fun z => absurd z (by decide), co_L_blend⟩
set_option maxRecDepth 20000 in
theorem mp_L_blend : mm_at mm_prog 311 = some mmL_blend := rfl
set_option maxRecDepth 20000 in
theorem mi_L_blend : mm_at mm_inf 311 = some (yL_blend, cL_blend, (some .int)) := rfl
theorem fm_L_later : mm_QM mmL_later yL_later cL_later (some .int) := ⟨rfl, pn_17, cn_17, wd_0, mm_wsm_in rfl wd_1162, by decide, Or.inr (Or.inl ⟨rfl, rfl⟩), fun z => absurd z (by decide), co_L_later⟩
set_option maxRecDepth 20000 in
theorem mp_L_later : mm_at mm_prog 312 = some mmL_later := rfl
set_option maxRecDepth 20000 in
theorem mi_L_later : mm_at mm_inf 312 = some (yL_later, cL_later, (some .int)) := rfl
theorem fm_L_full : mm_QM mmL_full yL_full cL_full (some .int) := ⟨rfl, pn_17, cn_17, wd_0, mm_wsm_in rfl wd_1169, by decide, Or.inr (Or.inl ⟨rfl, rfl⟩), fun z => absurd z (by decide), co_L_full⟩
set_option maxRecDepth 20000 in
theorem mp_L_full : mm_at mm_prog 313 = some mmL_full := rfl
set_option maxRecDepth 20000 in
theorem mi_L_full : mm_at mm_inf 313 = some (yL_full, cL_full, (some .int)) := rfl
theorem fm_L_read : mm_QM mmL_read yL_read cL_read (some .int) := ⟨rfl, pn_17, cn_17, wd_0, mm_wsm_in rfl wd_1176, by decide, Or.inr (Or.inl ⟨rfl, rfl⟩), fun z => absurd z (by decide), co_L_read⟩
set_option maxRecDepth 20000 in
theorem mp_L_read : mm_at mm_prog 314 = some mmL_read := rfl
set_option maxRecDepth 20000 in
theorem mi_L_read : mm_at mm_inf 314 = some (yL_read, cL_read, (some .int)) := rfl
theorem fm_L_alike : mm_QM mmL_alike yL_alike cL_alike (some .int) := ⟨rfl, pn_17, cn_17, wd_0, mm_wsm_in rfl wd_1184, by decide, Or.inr (Or.inl ⟨rfl, rfl⟩), fun z => absurd z (by decide), co_L_alike⟩
set_option maxRecDepth 20000 in
theorem mp_L_alike : mm_at mm_prog 315 = some mmL_alike := rfl
set_option maxRecDepth 20000 in
theorem mi_L_alike : mm_at mm_inf 315 = some (yL_alike, cL_alike, (some .int)) := rfl
theorem fm_L_both : mm_QM mmL_both yL_both cL_both (some .int) := ⟨rfl, pn_17, cn_17, wd_0, mm_wsm_in rfl wd_1192, by decide, Or.inr (Or.inl ⟨rfl, rfl⟩), fun z => absurd z (by decide), co_L_both⟩
set_option maxRecDepth 20000 in
theorem mp_L_both : mm_at mm_prog 316 = some mmL_both := rfl
set_option maxRecDepth 20000 in
theorem mi_L_both : mm_at mm_inf 316 = some (yL_both, cL_both, (some .int)) := rfl
theorem fm_L_row : mm_QM mmL_row yL_row cL_row (some .int) := ⟨rfl, pn_17, cn_17, wd_0, mm_wsm_in rfl wd_1205, by decide, Or.inr (Or.inl ⟨rfl, rfl⟩), fun z => absurd z (by decide), co_L_row⟩
set_option maxRecDepth 20000 in
theorem mp_L_row : mm_at mm_prog 317 = some mmL_row := rfl
set_option maxRecDepth 20000 in
theorem mi_L_row : mm_at mm_inf 317 = some (yL_row, cL_row, (some .int)) := rfl
theorem fm_L_chain : mm_QM mmL_chain yL_chain cL_chain (some .int) := ⟨rfl, pn_17, cn_17, wd_0, mm_wsm_in rfl wd_1217, by decide, Or.inr (Or.inl ⟨rfl, rfl⟩), fun z => absurd z (by decide), co_L_chain⟩
set_option maxRecDepth 20000 in
theorem mp_L_chain : mm_at mm_prog 318 = some mmL_chain := rfl
set_option maxRecDepth 20000 in
theorem mi_L_chain : mm_at mm_inf 318 = some (yL_chain, cL_chain, (some .int)) := rfl
theorem fm_L_toDraw : mm_QM mmL_toDraw yL_toDraw cL_toDraw (some .int) := ⟨rfl, pn_17, cn_17, wd_0, mm_wsm_in rfl wd_1232, by decide, Or.inr (Or.inl ⟨rfl, rfl⟩), fun z => absurd z (by decide), co_L_toDraw⟩
set_option maxRecDepth 20000 in
theorem mp_L_toDraw : mm_at mm_prog 319 = some mmL_toDraw := rfl
set_option maxRecDepth 20000 in
theorem mi_L_toDraw : mm_at mm_inf 319 = some (yL_toDraw, cL_toDraw, (some .int)) := rfl
theorem fm_L_see : mm_QM mmL_see yL_see cL_see (some .int) := ⟨rfl, pn_17, cn_17, wd_0, mm_wsm_in rfl wd_1239, by decide, Or.inr (Or.inl ⟨rfl, rfl⟩), fun z => absurd z (by decide), co_L_see⟩
set_option maxRecDepth 20000 in
theorem mp_L_see : mm_at mm_prog 320 = some mmL_see := rfl
set_option maxRecDepth 20000 in
theorem mi_L_see : mm_at mm_inf 320 = some (yL_see, cL_see, (some .int)) := rfl
theorem fm_L_loose : mm_QM mmL_loose yL_loose cL_loose (some .int) := ⟨rfl, pn_17, cn_17, wd_0, mm_wsm_in rfl wd_1250, by decide, Or.inr (Or.inl ⟨rfl, rfl⟩), fun z => absurd z (by decide), co_L_loose⟩
set_option maxRecDepth 20000 in
theorem mp_L_loose : mm_at mm_prog 321 = some mmL_loose := rfl
set_option maxRecDepth 20000 in
theorem mi_L_loose : mm_at mm_inf 321 = some (yL_loose, cL_loose, (some .int)) := rfl
theorem fm_L_look : mm_QM mmL_look yL_look cL_look (some .int) := ⟨rfl, pn_17, cn_17, wd_0, mm_wsm_in rfl wd_1284, by decide, Or.inr (Or.inl ⟨rfl, rfl⟩), fun z => absurd z (by decide), co_L_look⟩
set_option maxRecDepth 20000 in
theorem mp_L_look : mm_at mm_prog 322 = some mmL_look := rfl
set_option maxRecDepth 20000 in
theorem mi_L_look : mm_at mm_inf 322 = some (yL_look, cL_look, (some .int)) := rfl
theorem fm_L_seasons : mm_QM mmL_seasons yL_seasons cL_seasons (some .int) := ⟨rfl, pn_17, cn_17, wd_0, mm_wsm_in rfl wd_1295, by decide, Or.inr (Or.inl ⟨rfl, rfl⟩), fun z => absurd z (by decide), co_L_seasons⟩
set_option maxRecDepth 20000 in
theorem mp_L_seasons : mm_at mm_prog 323 = some mmL_seasons := rfl
set_option maxRecDepth 20000 in
theorem mi_L_seasons : mm_at mm_inf 323 = some (yL_seasons, cL_seasons, (some .int)) := rfl
theorem fm_L_game : mm_QM mmL_game yL_game cL_game (some .int) := ⟨rfl, pn_17, cn_17, wd_0, mm_wsm_in rfl wd_1302, by decide, Or.inr (Or.inl ⟨rfl, rfl⟩), fun z => absurd z (by decide), co_L_game⟩
set_option maxRecDepth 20000 in
theorem mp_L_game : mm_at mm_prog 324 = some mmL_game := rfl
set_option maxRecDepth 20000 in
theorem mi_L_game : mm_at mm_inf 324 = some (yL_game, cL_game, (some .int)) := rfl
theorem fm_L_years : mm_QM mmL_years yL_years cL_years (some .int) := ⟨rfl, pn_17, cn_17, wd_0, mm_wsm_in rfl wd_1313, by decide, Or.inr (Or.inl ⟨rfl, rfl⟩), fun z => absurd z (by decide), co_L_years⟩
set_option maxRecDepth 20000 in
theorem mp_L_years : mm_at mm_prog 325 = some mmL_years := rfl
set_option maxRecDepth 20000 in
theorem mi_L_years : mm_at mm_inf 325 = some (yL_years, cL_years, (some .int)) := rfl
set_option maxRecDepth 100000 in
theorem mm_FM_ok : mm_FM 326 := fun mi M y b ret hne h1 h2 => by
  have h : mm_AllZ (fun k M y b ret => k ≠ 326 → mm_QM M y b ret) 0 mm_prog mm_inf := ⟨fun _ => fm_X0_init, ⟨fun _ => fm_X0_empty, ⟨fun _ => fm_X0_addLetter, ⟨fun _ => fm_X0_length, ⟨fun _ => fm_X0_signAt, ⟨fun _ => fm_X0_last, ⟨fun _ => fm_X0_isSame, ⟨fun _ => fm_X0_holds, ⟨fun _ => fm_X0_matches, ⟨fun _ => fm_X0_overlapWith, ⟨fun _ => fm_X0_isAnagram, ⟨fun _ => fm_X0_howOften, ⟨fun _ => fm_X1_init, ⟨fun _ => fm_X1_forgetAll, ⟨fun _ => fm_X1_addHeat, ⟨fun _ => fm_X1_heatOf, ⟨fun _ => fm_X1_fullOf, ⟨fun _ => fm_X1_isFull, ⟨fun _ => fm_X1_blendSize, ⟨fun _ => fm_X1_blendInto, ⟨fun _ => fm_X1_howManyFull, ⟨fun _ => fm_X1_lettersOfAll, ⟨fun _ => fm_X1_passDay, ⟨fun _ => fm_X1_grow, ⟨fun _ => fm_X2_init, ⟨fun _ => fm_X2_changes, ⟨fun _ => fm_X2_common, ⟨fun _ => fm_X3_init, ⟨fun _ => fm_X3_setCost, ⟨fun _ => fm_X3_total, ⟨fun _ => fm_X3_partnerOf, ⟨fun _ => fm_X3_find, ⟨fun _ => fm_X3_fewestOf, ⟨fun _ => fm_X3_withCouple, ⟨fun _ => fm_X3_choosePartners, ⟨fun _ => fm_X4_init, ⟨fun _ => fm_X4_place, ⟨fun _ => fm_X4_faultKind, ⟨fun _ => fm_X4_begin, ⟨fun _ => fm_X4_goesOn, ⟨fun _ => fm_X4_blame, ⟨fun _ => fm_X4_readLine, ⟨fun _ => fm_X4_readWord, ⟨fun _ => fm_X4_readNumber, ⟨fun _ => fm_X4_readTrunk, ⟨fun _ => fm_X4_readHeat, ⟨fun _ => fm_X4_readGrows, ⟨fun _ => fm_X4_exprEnds, ⟨fun _ => fm_X4_readPart, ⟨fun _ => fm_X4_notsAnew, ⟨fun _ => fm_X4_readSign, ⟨fun _ => fm_X4_openSign, ⟨fun _ => fm_X4_lastOpen, ⟨fun _ => fm_X4_closeSigns, ⟨fun _ => fm_X4_valueOfWord, ⟨fun _ => fm_X4_signOfToken, ⟨fun _ => fm_X4_rankOf, ⟨fun _ => fm_X5_init, ⟨fun _ => fm_X5_clear, ⟨fun _ => fm_X5_isTold, ⟨fun _ => fm_X5_addStep, ⟨fun _ => fm_X5_setTrunk, ⟨fun _ => fm_X5_setWords, ⟨fun _ => fm_X5_worth, ⟨fun _ => fm_X5_joined, ⟨fun _ => fm_X6_init, ⟨fun _ => fm_X6_takeOver, ⟨fun _ => fm_X6_beginWith, ⟨fun _ => fm_X6_refuse, ⟨fun _ => fm_X6_refusals, ⟨fun _ => fm_X6_actsKept, ⟨fun _ => fm_X6_keepAct, ⟨fun _ => fm_X6_undoAct, ⟨fun _ => fm_X6_seenSize, ⟨fun _ => fm_X6_addSeen, ⟨fun _ => fm_X6_forgetSeen, ⟨fun _ => fm_X6_lastSeenDay, ⟨fun _ => fm_X6_agrees, ⟨fun _ => fm_X7_init, ⟨fun _ => fm_X7_takeBytes, ⟨fun _ => fm_X7_open, ⟨fun _ => fm_X7_step, ⟨fun _ => fm_X7_stepWord, ⟨fun _ => fm_X7_stepNumber, ⟨fun _ => fm_X7_byteAt, ⟨fun _ => fm_X7_isLetter, ⟨fun _ => fm_X7_isDigit, ⟨fun _ => fm_X7_isSign, ⟨fun _ => fm_X7_kind, ⟨fun _ => fm_X7_start, ⟨fun _ => fm_X7_tokenSize, ⟨fun _ => fm_X7_number, ⟨fun _ => fm_X7_spells, ⟨fun _ => fm_X7_spellInto, ⟨fun _ => fm_X8_init, ⟨fun _ => fm_X8_becomeAs, ⟨fun _ => fm_X8_turnRound, ⟨fun _ => fm_X8_packIn, ⟨fun _ => fm_X9_init, ⟨fun _ => fm_X9_get, ⟨fun _ => fm_X9_addTrunk, ⟨fun _ => fm_X9_copyAll, ⟨fun _ => fm_X9_saveIn, ⟨fun _ => fm_X9_takeFrom, ⟨fun _ => fm_X10_init, ⟨fun _ => fm_X10_startAnew, ⟨fun _ => fm_X10_many, ⟨fun _ => fm_X10_of, ⟨fun _ => fm_X10_hasAlready, ⟨fun _ => fm_X10_takeNext, ⟨fun _ => fm_X10_firmness, ⟨fun _ => fm_X10_overlapOf, ⟨fun _ => fm_X10_rowLetters, ⟨fun _ => fm_X10_inRow, ⟨fun _ => fm_X10_chainSize, ⟨fun _ => fm_X10_inChain, ⟨fun _ => fm_X10_within, ⟨fun _ => fm_X10_anagrams, ⟨fun _ => fm_X10_settle, ⟨fun _ => fm_X10_findOrder, ⟨fun _ => fm_X10_fillRoom, ⟨fun _ => fm_X10_firstNext, ⟨fun _ => fm_X11_init, ⟨fun _ => fm_X11_feed, ⟨fun _ => fm_X11_baggage, ⟨fun _ => fm_X11_fault, ⟨fun _ => fm_X11_count, ⟨fun _ => fm_X11_trunkCount, ⟨fun _ => fm_X11_treaties, ⟨fun _ => fm_X11_word, ⟨fun _ => fm_X11_trunksWith, ⟨fun _ => fm_X11_letter, ⟨fun _ => fm_X11_trunk, ⟨fun _ => fm_X11_days, ⟨fun _ => fm_X11_draw, ⟨fun _ => fm_X11_pull, ⟨fun _ => fm_X11_turn, ⟨fun _ => fm_X11_pack, ⟨fun _ => fm_X11_undo, ⟨fun _ => fm_X11_then, ⟨fun _ => fm_X11_nearestToBlend, ⟨fun _ => fm_X11_blend, ⟨fun _ => fm_X11_later, ⟨fun _ => fm_X11_full, ⟨fun _ => fm_X11_read, ⟨fun _ => fm_X11_alike, ⟨fun _ => fm_X11_growBy, ⟨fun _ => fm_X11_growProbe, ⟨fun _ => fm_X11_both, ⟨fun _ => fm_X11_row, ⟨fun _ => fm_X11_chain, ⟨fun _ => fm_X11_toDraw, ⟨fun _ => fm_X11_couples, ⟨fun _ => fm_X11_findCouples, ⟨fun _ => fm_X11_see, ⟨fun _ => fm_X11_loose, ⟨fun _ => fm_X11_look, ⟨fun _ => fm_X11_forget, ⟨fun _ => fm_X11_allTrunks, ⟨fun _ => fm_X11_fittingTrunks, ⟨fun _ => fm_X11_looseStraps, ⟨fun _ => fm_X11_fitsSeen, ⟨fun _ => fm_X11_unlikeNumbers, ⟨fun _ => fm_X11_seasons, ⟨fun _ => fm_X11_game, ⟨fun _ => fm_X11_ownGain, ⟨fun _ => fm_X11_years, ⟨fun _ => fm_X11_drawAhead, ⟨fun _ => fm_X11_drawOf, ⟨fun _ => fm_X11_image, ⟨fun _ => fm_X11_restore, ⟨fun _ => fm_X11_isWord, ⟨fun _ => fm_X11_isTrunk, ⟨fun _ => fm_X11_isAhead, ⟨fun _ => fm_X11_mustBe, ⟨fun _ => fm_X11_mustFit, ⟨fun _ => fm_X11_at, ⟨fun _ => fm_X11_put, ⟨fun _ => fm_X11_copyRow, ⟨fun _ => fm_X11_lowestBit, ⟨fun _ => fm_X12_init, ⟨fun _ => fm_X12_thrown, ⟨fun _ => fm_X12_fail, ⟨fun _ => fm_X12_isIn, ⟨fun _ => fm_X12_isOf, ⟨fun _ => fm_X12_bitsOf, ⟨fun _ => fm_X12_isWord, ⟨fun _ => fm_X12_isTrunk, ⟨fun _ => fm_X12_feed, ⟨fun _ => fm_X12_byteAt, ⟨fun _ => fm_X12_isLetter, ⟨fun _ => fm_X12_isDigit, ⟨fun _ => fm_X12_isMark, ⟨fun _ => fm_X12_stepOn, ⟨fun _ => fm_X12_wrong, ⟨fun _ => fm_X12_is, ⟨fun _ => fm_X12_which, ⟨fun _ => fm_X12_isMarked, ⟨fun _ => fm_X12_mark, ⟨fun _ => fm_X12_numberNow, ⟨fun _ => fm_X12_readNumber, ⟨fun _ => fm_X12_lay, ⟨fun _ => fm_X12_readPart, ⟨fun _ => fm_X12_readProduct, ⟨fun _ => fm_X12_readSum, ⟨fun _ => fm_X12_readNot, ⟨fun _ => fm_X12_readAnd, ⟨fun _ => fm_X12_readExpression, ⟨fun _ => fm_X12_another, ⟨fun _ => fm_X12_isToldAhead, ⟨fun _ => fm_X12_sayWord, ⟨fun _ => fm_X12_readWhich, ⟨fun _ => fm_X12_sayTrunk, ⟨fun _ => fm_X12_sayHeat, ⟨fun _ => fm_X12_readLine, ⟨fun _ => fm_X12_baggage, ⟨fun _ => fm_X12_takeHalf, ⟨fun _ => fm_X12_takeOver, ⟨fun _ => fm_X12_fault, ⟨fun _ => fm_X12_store, ⟨fun _ => fm_X12_recall, ⟨fun _ => fm_X12_letterOf, ⟨fun _ => fm_X12_overlapOf, ⟨fun _ => fm_X12_wordInto, ⟨fun _ => fm_X12_blendInto, ⟨fun _ => fm_X12_compared, ⟨fun _ => fm_X12_isWithin, ⟨fun _ => fm_X12_areSame, ⟨fun _ => fm_X12_withinOf, ⟨fun _ => fm_X12_manyOf, ⟨fun _ => fm_X12_anagramsOf, ⟨fun _ => fm_X12_reckon, ⟨fun _ => fm_X12_valueNow, ⟨fun _ => fm_X12_heatOf, ⟨fun _ => fm_X12_fullOf, ⟨fun _ => fm_X12_isFull, ⟨fun _ => fm_X12_growsOf, ⟨fun _ => fm_X12_aDayOf, ⟨fun _ => fm_X12_goOn, ⟨fun _ => fm_X12_fullOnes, ⟨fun _ => fm_X12_blendSize, ⟨fun _ => fm_X12_allLetters, ⟨fun _ => fm_X12_treaties, ⟨fun _ => fm_X12_count, ⟨fun _ => fm_X12_word, ⟨fun _ => fm_X12_letter, ⟨fun _ => fm_X12_trunk, ⟨fun _ => fm_X12_refuse, ⟨fun _ => fm_X12_keep, ⟨fun _ => fm_X12_days, ⟨fun _ => fm_X12_draw, ⟨fun _ => fm_X12_pull, ⟨fun _ => fm_X12_turnRound, ⟨fun _ => fm_X12_turn, ⟨fun _ => fm_X12_packIn, ⟨fun _ => fm_X12_pack, ⟨fun _ => fm_X12_undo, ⟨fun _ => fm_X12_nearest, ⟨fun _ => fm_X12_then, ⟨fun _ => fm_X12_blend, ⟨fun _ => fm_X12_allGrown, ⟨fun _ => fm_X12_longestNow, ⟨fun _ => fm_X12_later, ⟨fun _ => fm_X12_full, ⟨fun _ => fm_X12_read, ⟨fun _ => fm_X12_alike, ⟨fun _ => fm_X12_both, ⟨fun _ => fm_X12_madeOn, ⟨fun _ => fm_X12_tellRow, ⟨fun _ => fm_X12_pushed, ⟨fun _ => fm_X12_row, ⟨fun _ => fm_X12_follows, ⟨fun _ => fm_X12_tellChain, ⟨fun _ => fm_X12_chain, ⟨fun _ => fm_X12_toDraw, ⟨fun _ => fm_X12_tellCouples, ⟨fun _ => fm_X12_couples, ⟨fun _ => fm_X12_coupleOf, ⟨fun _ => fm_X12_see, ⟨fun _ => fm_X12_isAsSeen, ⟨fun _ => fm_X12_tellFits, ⟨fun _ => fm_X12_loose, ⟨fun _ => fm_X12_look, ⟨fun _ => fm_X12_forget, ⟨fun _ => fm_X12_seasons, ⟨fun _ => fm_X12_tellGains, ⟨fun _ => fm_X12_game, ⟨fun _ => fm_X12_drawOf, ⟨fun _ => fm_X12_something, ⟨fun _ => fm_X12_years, ⟨fun _ => fm_X12_copyTo, ⟨fun _ => fm_X12_image, ⟨fun _ => fm_X12_restore, ⟨fun _ => fm_J6_bitCount, ⟨fun _ => fm_J0_length, ⟨fun _ => fm_J0_charAt, ⟨fun _ => fm_J0_coder, ⟨fun _ => fm_J0_isLatin1, ⟨fun _ => fm_J0_checkIndex, ⟨fun _ => fm_J1_charAt, ⟨fun _ => fm_J3_checkIndex, ⟨fun _ => fm_L_baggage, ⟨fun _ => fm_L_count, ⟨fun _ => fm_L_word, ⟨fun _ => fm_L_letter, ⟨fun _ => fm_L_trunk, ⟨fun _ => fm_L_draw, ⟨fun _ => fm_L_pull, ⟨fun _ => fm_L_turn, ⟨fun _ => fm_L_pack, ⟨fun _ => fm_L_then, ⟨fun _ => fm_L_blend, ⟨fun _ => fm_L_later, ⟨fun _ => fm_L_full, ⟨fun _ => fm_L_read, ⟨fun _ => fm_L_alike, ⟨fun _ => fm_L_both, ⟨fun _ => fm_L_row, ⟨fun _ => fm_L_chain, ⟨fun _ => fm_L_toDraw, ⟨fun _ => fm_L_see, ⟨fun _ => fm_L_loose, ⟨fun _ => fm_L_look, ⟨fun _ => fm_L_seasons, ⟨fun _ => fm_L_game, ⟨fun _ => fm_L_years, ⟨fun z => absurd rfl z, trivial⟩⟩⟩⟩⟩⟩⟩⟩⟩⟩⟩⟩⟩⟩⟩⟩⟩⟩⟩⟩⟩⟩⟩⟩⟩⟩⟩⟩⟩⟩⟩⟩⟩⟩⟩⟩⟩⟩⟩⟩⟩⟩⟩⟩⟩⟩⟩⟩⟩⟩⟩⟩⟩⟩⟩⟩⟩⟩⟩⟩⟩⟩⟩⟩⟩⟩⟩⟩⟩⟩⟩⟩⟩⟩⟩⟩⟩⟩⟩⟩⟩⟩⟩⟩⟩⟩⟩⟩⟩⟩⟩⟩⟩⟩⟩⟩⟩⟩⟩⟩⟩⟩⟩⟩⟩⟩⟩⟩⟩⟩⟩⟩⟩⟩⟩⟩⟩⟩⟩⟩⟩⟩⟩⟩⟩⟩⟩⟩⟩⟩⟩⟩⟩⟩⟩⟩⟩⟩⟩⟩⟩⟩⟩⟩⟩⟩⟩⟩⟩⟩⟩⟩⟩⟩⟩⟩⟩⟩⟩⟩⟩⟩⟩⟩⟩⟩⟩⟩⟩⟩⟩⟩⟩⟩⟩⟩⟩⟩⟩⟩⟩⟩⟩⟩⟩⟩⟩⟩⟩⟩⟩⟩⟩⟩⟩⟩⟩⟩⟩⟩⟩⟩⟩⟩⟩⟩⟩⟩⟩⟩⟩⟩⟩⟩⟩⟩⟩⟩⟩⟩⟩⟩⟩⟩⟩⟩⟩⟩⟩⟩⟩⟩⟩⟩⟩⟩⟩⟩⟩⟩⟩⟩⟩⟩⟩⟩⟩⟩⟩⟩⟩⟩⟩⟩⟩⟩⟩⟩⟩⟩⟩⟩⟩⟩⟩⟩⟩⟩⟩⟩⟩⟩⟩⟩⟩⟩⟩⟩⟩⟩⟩⟩⟩⟩⟩⟩⟩⟩⟩⟩⟩⟩⟩⟩⟩⟩⟩⟩⟩⟩⟩⟩⟩⟩⟩⟩⟩⟩⟩⟩⟩⟩⟩⟩⟩⟩⟩⟩⟩⟩⟩⟩⟩⟩⟩⟩⟩
  have h9 := mm_AllZ_of h h1 h2
  rw [Nat.zero_add] at h9
  exact h9 hne
set_option maxRecDepth 20000 in
theorem pd_0 : (parseMethodDescriptor yX11_at.desc).map (fun d => d.parameters.length) = some 2 := by decide +kernel
theorem fl_0_23 : mm_PL 0 23 (0, 176, 2, 1, 11) := fun _ => ⟨by decide, mmX11_at, yX11_at, cX11_at, (some .int), mp_X11_at, mi_X11_at, pd_0, Or.inr ⟨rfl, wd_525⟩, fun _ => wd_403, fun z => absurd rfl z, fun z => absurd z (by decide), fun z => absurd z (by decide), fun _ => rfl⟩
set_option maxRecDepth 20000 in
theorem pd_1 : (parseMethodDescriptor yX11_put.desc).map (fun d => d.parameters.length) = some 3 := by decide +kernel
theorem fl_0_17 : mm_PL 0 17 (0, 177, 3, 1, 11) := fun _ => ⟨by decide, mmX11_put, yX11_put, cX11_put, none, mp_X11_put, mi_X11_put, pd_1, Or.inr ⟨rfl, wd_530⟩, fun _ => wd_406, fun z => absurd rfl z, fun z => absurd z (by decide), fun z => absurd z (by decide), fun _ => rfl⟩
set_option maxRecDepth 20000 in
theorem pd_2 : (parseMethodDescriptor yX0_matches.desc).map (fun d => d.parameters.length) = some 3 := by decide +kernel
theorem fl_0_27 : mm_PL 0 27 (1, 8, 3, 0, 0) := fun _ => ⟨by decide, mmX0_matches, yX0_matches, cX0_matches, (some .boolean), mp_X0_matches, mi_X0_matches, pd_2, Or.inl ⟨rfl, wd_829⟩, fun z => absurd z (by decide), fun _ => wd_831, fun _ => ⟨ws_11, Or.inl ⟨rfl, by decide⟩, rfl⟩, fun z => absurd z (by decide), fun z => absurd z (by decide)⟩
set_option maxRecDepth 20000 in
theorem pd_3 : (parseMethodDescriptor yX0_howOften.desc).map (fun d => d.parameters.length) = some 1 := by decide +kernel
theorem fl_0_40 : mm_PL 0 40 (1, 11, 1, 0, 0) := fun _ => ⟨by decide, mmX0_howOften, yX0_howOften, cX0_howOften, (some .int), mp_X0_howOften, mi_X0_howOften, pd_3, Or.inl ⟨rfl, wd_1058⟩, fun z => absurd z (by decide), fun _ => wd_1060, fun _ => ⟨ws_30, Or.inl ⟨rfl, by decide⟩, rfl⟩, fun z => absurd z (by decide), fun z => absurd z (by decide)⟩
set_option maxRecDepth 20000 in
theorem pd_4 : (parseMethodDescriptor yX10_init.desc).map (fun d => d.parameters.length) = some 0 := by decide +kernel
theorem fl_1_11 : mm_PL 1 11 (2, 104, 0, 0, 10) := fun _ => ⟨by decide, mmX10_init, yX10_init, cX10_init, none, mp_X10_init, mi_X10_init, pd_4, Or.inl ⟨rfl, wd_41⟩, fun z => absurd z (by decide), fun _ => wd_42, fun z => absurd z (by decide), fun _ => ⟨rfl, rfl, rfl⟩, fun z => absurd z (by decide)⟩
set_option maxRecDepth 20000 in
theorem fl_1_20 : mm_PL 1 20 (2, 98, 0, 0, 9) := fun _ => ⟨by decide, mmX9_init, yX9_init, cX9_init, none, mp_X9_init, mi_X9_init, pd_4, Or.inl ⟨rfl, wd_93⟩, fun z => absurd z (by decide), fun _ => wd_94, fun z => absurd z (by decide), fun _ => ⟨rfl, rfl, rfl⟩, fun z => absurd z (by decide)⟩
set_option maxRecDepth 20000 in
theorem fl_1_35 : mm_PL 1 35 (2, 57, 0, 1, 5) := fun _ => ⟨by decide, mmX5_init, yX5_init, cX5_init, none, mp_X5_init, mi_X5_init, pd_4, Or.inr ⟨rfl, wd_157⟩, fun z => absurd z (by decide), fun _ => wd_158, fun z => absurd z (by decide), fun _ => ⟨rfl, rfl, rfl⟩, fun _ => rfl⟩
set_option maxRecDepth 20000 in
theorem fl_1_113 : mm_PL 1 113 (1, 15, 1, 0, 1) := fun _ => ⟨by decide, mmX1_heatOf, yX1_heatOf, cX1_heatOf, (some .int), mp_X1_heatOf, mi_X1_heatOf, pd_3, Or.inl ⟨rfl, wd_425⟩, fun z => absurd z (by decide), fun _ => wd_426, fun _ => ⟨wd_427, Or.inl ⟨rfl, by decide⟩, rfl⟩, fun z => absurd z (by decide), fun z => absurd z (by decide)⟩
set_option maxRecDepth 20000 in
theorem fl_1_53 : mm_PL 1 53 (0, 176, 2, 1, 11) := fun _ => ⟨by decide, mmX11_at, yX11_at, cX11_at, (some .int), mp_X11_at, mi_X11_at, pd_0, Or.inr ⟨rfl, wd_429⟩, fun _ => wd_403, fun z => absurd rfl z, fun z => absurd z (by decide), fun z => absurd z (by decide), fun _ => rfl⟩
set_option maxRecDepth 20000 in
theorem pd_5 : (parseMethodDescriptor yX9_get.desc).map (fun d => d.parameters.length) = some 1 := by decide +kernel
theorem fl_1_99 : mm_PL 1 99 (1, 99, 1, 0, 9) := fun _ => ⟨by decide, mmX9_get, yX9_get, cX9_get, (some (.object "GrownWords$Trunk")), mp_X9_get, mi_X9_get, pd_5, Or.inl ⟨rfl, wd_430⟩, fun z => absurd z (by decide), fun _ => wd_418, fun _ => ⟨wd_419, Or.inl ⟨rfl, by decide⟩, rfl⟩, fun z => absurd z (by decide), fun z => absurd z (by decide)⟩
set_option maxRecDepth 20000 in
theorem pd_6 : (parseMethodDescriptor yX1_grow.desc).map (fun d => d.parameters.length) = some 3 := by decide +kernel
theorem fl_1_116 : mm_PL 1 116 (1, 23, 3, 0, 1) := fun _ => ⟨by decide, mmX1_grow, yX1_grow, cX1_grow, none, mp_X1_grow, mi_X1_grow, pd_6, Or.inl ⟨rfl, wd_431⟩, fun z => absurd z (by decide), fun _ => wd_432, fun _ => ⟨wd_433, Or.inl ⟨rfl, by decide⟩, rfl⟩, fun z => absurd z (by decide), fun z => absurd z (by decide)⟩
set_option maxRecDepth 20000 in
theorem pd_7 : (parseMethodDescriptor yX5_isTold.desc).map (fun d => d.parameters.length) = some 0 := by decide +kernel
theorem fl_1_123 : mm_PL 1 123 (1, 59, 0, 0, 5) := fun _ => ⟨by decide, mmX5_isTold, yX5_isTold, cX5_isTold, (some .boolean), mp_X5_isTold, mi_X5_isTold, pd_7, Or.inl ⟨rfl, wd_435⟩, fun z => absurd z (by decide), fun _ => wd_436, fun _ => ⟨wd_437, Or.inl ⟨rfl, by decide⟩, rfl⟩, fun z => absurd z (by decide), fun z => absurd z (by decide)⟩
set_option maxRecDepth 20000 in
theorem fl_1_127 : mm_PL 1 127 (1, 61, 3, 0, 5) := fun _ => ⟨by decide, mmX5_setTrunk, yX5_setTrunk, cX5_setTrunk, none, mp_X5_setTrunk, mi_X5_setTrunk, pd_6, Or.inl ⟨rfl, wd_439⟩, fun z => absurd z (by decide), fun _ => wd_440, fun _ => ⟨wd_441, Or.inl ⟨rfl, by decide⟩, rfl⟩, fun z => absurd z (by decide), fun z => absurd z (by decide)⟩
set_option maxRecDepth 20000 in
theorem fl_1_130 : mm_PL 1 130 (1, 110, 1, 0, 10) := fun _ => ⟨by decide, mmX10_firmness, yX10_firmness, cX10_firmness, (some .int), mp_X10_firmness, mi_X10_firmness, pd_3, Or.inl ⟨rfl, wd_444⟩, fun z => absurd z (by decide), fun _ => wd_445, fun _ => ⟨wd_446, Or.inl ⟨rfl, by decide⟩, rfl⟩, fun z => absurd z (by decide), fun z => absurd z (by decide)⟩
set_option maxRecDepth 20000 in
theorem pd_8 : (parseMethodDescriptor yX10_overlapOf.desc).map (fun d => d.parameters.length) = some 2 := by decide +kernel
theorem fl_1_133 : mm_PL 1 133 (1, 111, 2, 0, 10) := fun _ => ⟨by decide, mmX10_overlapOf, yX10_overlapOf, cX10_overlapOf, (some .int), mp_X10_overlapOf, mi_X10_overlapOf, pd_8, Or.inl ⟨rfl, wd_449⟩, fun z => absurd z (by decide), fun _ => wd_450, fun _ => ⟨wd_451, Or.inl ⟨rfl, by decide⟩, rfl⟩, fun z => absurd z (by decide), fun z => absurd z (by decide)⟩
set_option maxRecDepth 20000 in
theorem pd_9 : (parseMethodDescriptor yX5_setWords.desc).map (fun d => d.parameters.length) = some 3 := by decide +kernel
theorem fl_1_136 : mm_PL 1 136 (1, 62, 3, 0, 5) := fun _ => ⟨by decide, mmX5_setWords, yX5_setWords, cX5_setWords, none, mp_X5_setWords, mi_X5_setWords, pd_9, Or.inl ⟨rfl, wd_453⟩, fun z => absurd z (by decide), fun _ => wd_454, fun _ => ⟨wd_455, Or.inl ⟨rfl, by decide⟩, rfl⟩, fun z => absurd z (by decide), fun z => absurd z (by decide)⟩
set_option maxRecDepth 20000 in
theorem pd_10 : (parseMethodDescriptor yX5_worth.desc).map (fun d => d.parameters.length) = some 0 := by decide +kernel
theorem fl_1_140 : mm_PL 1 140 (1, 63, 0, 0, 5) := fun _ => ⟨by decide, mmX5_worth, yX5_worth, cX5_worth, (some .int), mp_X5_worth, mi_X5_worth, pd_10, Or.inl ⟨rfl, wd_457⟩, fun z => absurd z (by decide), fun _ => wd_458, fun _ => ⟨wd_459, Or.inl ⟨rfl, by decide⟩, rfl⟩, fun z => absurd z (by decide), fun z => absurd z (by decide)⟩
set_option maxRecDepth 20000 in
theorem pd_11 : (parseMethodDescriptor yX1_fullOf.desc).map (fun d => d.parameters.length) = some 1 := by decide +kernel
theorem fl_1_84 : mm_PL 1 84 (1, 16, 1, 0, 1) := fun _ => ⟨by decide, mmX1_fullOf, yX1_fullOf, cX1_fullOf, (some .int), mp_X1_fullOf, mi_X1_fullOf, pd_11, Or.inl ⟨rfl, wd_471⟩, fun z => absurd z (by decide), fun _ => wd_472, fun _ => ⟨wd_473, Or.inl ⟨rfl, by decide⟩, rfl⟩, fun z => absurd z (by decide), fun z => absurd z (by decide)⟩
set_option maxRecDepth 20000 in
theorem pd_12 : (parseMethodDescriptor yX10_of.desc).map (fun d => d.parameters.length) = some 1 := by decide +kernel
theorem fl_1_62 : mm_PL 1 62 (1, 107, 1, 0, 10) := fun _ => ⟨by decide, mmX10_of, yX10_of, cX10_of, (some (.object "GrownWords$Letters")), mp_X10_of, mi_X10_of, pd_12, Or.inl ⟨rfl, wd_475⟩, fun z => absurd z (by decide), fun _ => wd_476, fun _ => ⟨wd_477, Or.inl ⟨rfl, by decide⟩, rfl⟩, fun z => absurd z (by decide), fun z => absurd z (by decide)⟩
set_option maxRecDepth 20000 in
theorem fl_1_66 : mm_PL 1 66 (1, 3, 0, 0, 0) := fun _ => ⟨by decide, mmX0_length, yX0_length, cX0_length, (some .int), mp_X0_length, mi_X0_length, pd_10, Or.inl ⟨rfl, wd_479⟩, fun z => absurd z (by decide), fun _ => wd_480, fun _ => ⟨wd_481, Or.inl ⟨rfl, by decide⟩, rfl⟩, fun z => absurd z (by decide), fun z => absurd z (by decide)⟩
set_option maxRecDepth 20000 in
theorem fl_1_88 : mm_PL 1 88 (1, 1, 0, 0, 0) := fun _ => ⟨by decide, mmX0_empty, yX0_empty, cX0_empty, none, mp_X0_empty, mi_X0_empty, pd_4, Or.inl ⟨rfl, wd_517⟩, fun z => absurd z (by decide), fun _ => wd_518, fun _ => ⟨wd_519, Or.inl ⟨rfl, by decide⟩, rfl⟩, fun z => absurd z (by decide), fun z => absurd z (by decide)⟩
set_option maxRecDepth 20000 in
theorem fl_1_91 : mm_PL 1 91 (1, 4, 1, 0, 0) := fun _ => ⟨by decide, mmX0_signAt, yX0_signAt, cX0_signAt, (some .int), mp_X0_signAt, mi_X0_signAt, pd_3, Or.inl ⟨rfl, wd_521⟩, fun z => absurd z (by decide), fun _ => wd_522, fun _ => ⟨wd_523, Or.inl ⟨rfl, by decide⟩, rfl⟩, fun z => absurd z (by decide), fun z => absurd z (by decide)⟩
set_option maxRecDepth 20000 in
theorem pd_13 : (parseMethodDescriptor yX0_addLetter.desc).map (fun d => d.parameters.length) = some 1 := by decide +kernel
theorem fl_1_95 : mm_PL 1 95 (1, 2, 1, 0, 0) := fun _ => ⟨by decide, mmX0_addLetter, yX0_addLetter, cX0_addLetter, none, mp_X0_addLetter, mi_X0_addLetter, pd_13, Or.inl ⟨rfl, wd_526⟩, fun z => absurd z (by decide), fun _ => wd_527, fun _ => ⟨wd_528, Or.inl ⟨rfl, by decide⟩, rfl⟩, fun z => absurd z (by decide), fun z => absurd z (by decide)⟩
set_option maxRecDepth 20000 in
theorem fl_1_40 : mm_PL 1 40 (1, 105, 0, 0, 10) := fun _ => ⟨by decide, mmX10_startAnew, yX10_startAnew, cX10_startAnew, none, mp_X10_startAnew, mi_X10_startAnew, pd_4, Or.inl ⟨rfl, wd_685⟩, fun z => absurd z (by decide), fun _ => wd_686, fun _ => ⟨wd_687, Or.inl ⟨rfl, by decide⟩, rfl⟩, fun z => absurd z (by decide), fun z => absurd z (by decide)⟩
set_option maxRecDepth 20000 in
theorem fl_1_46 : mm_PL 1 46 (1, 58, 0, 0, 5) := fun _ => ⟨by decide, mmX5_clear, yX5_clear, cX5_clear, none, mp_X5_clear, mi_X5_clear, pd_4, Or.inl ⟨rfl, wd_689⟩, fun z => absurd z (by decide), fun _ => wd_690, fun _ => ⟨wd_691, Or.inl ⟨rfl, by decide⟩, rfl⟩, fun z => absurd z (by decide), fun z => absurd z (by decide)⟩
set_option maxRecDepth 20000 in
theorem fl_1_49 : mm_PL 1 49 (0, 177, 3, 1, 11) := fun _ => ⟨by decide, mmX11_put, yX11_put, cX11_put, none, mp_X11_put, mi_X11_put, pd_1, Or.inr ⟨rfl, wd_865⟩, fun _ => wd_406, fun z => absurd rfl z, fun z => absurd z (by decide), fun z => absurd z (by decide), fun _ => rfl⟩
set_option maxRecDepth 20000 in
theorem pd_14 : (parseMethodDescriptor yX1_isFull.desc).map (fun d => d.parameters.length) = some 1 := by decide +kernel
theorem fl_1_103 : mm_PL 1 103 (1, 17, 1, 0, 1) := fun _ => ⟨by decide, mmX1_isFull, yX1_isFull, cX1_isFull, (some .boolean), mp_X1_isFull, mi_X1_isFull, pd_14, Or.inl ⟨rfl, wd_986⟩, fun z => absurd z (by decide), fun _ => wd_987, fun _ => ⟨wd_988, Or.inl ⟨rfl, by decide⟩, rfl⟩, fun z => absurd z (by decide), fun z => absurd z (by decide)⟩
set_option maxRecDepth 20000 in
theorem fl_1_107 : mm_PL 1 107 (1, 18, 1, 0, 1) := fun _ => ⟨by decide, mmX1_blendSize, yX1_blendSize, cX1_blendSize, (some .int), mp_X1_blendSize, mi_X1_blendSize, pd_11, Or.inl ⟨rfl, wd_998⟩, fun z => absurd z (by decide), fun _ => wd_999, fun _ => ⟨wd_1000, Or.inl ⟨rfl, by decide⟩, rfl⟩, fun z => absurd z (by decide), fun z => absurd z (by decide)⟩
set_option maxRecDepth 20000 in
theorem fl_2_15 : mm_PL 2 15 (1, 3, 0, 0, 0) := fun _ => ⟨by decide, mmX0_length, yX0_length, cX0_length, (some .int), mp_X0_length, mi_X0_length, pd_10, Or.inl ⟨rfl, wd_535⟩, fun z => absurd z (by decide), fun _ => wd_480, fun _ => ⟨wd_481, Or.inl ⟨rfl, by decide⟩, rfl⟩, fun z => absurd z (by decide), fun z => absurd z (by decide)⟩
set_option maxRecDepth 20000 in
theorem fl_2_21 : mm_PL 2 21 (0, 177, 3, 1, 11) := fun _ => ⟨by decide, mmX11_put, yX11_put, cX11_put, none, mp_X11_put, mi_X11_put, pd_1, Or.inr ⟨rfl, wd_536⟩, fun _ => wd_406, fun z => absurd rfl z, fun z => absurd z (by decide), fun z => absurd z (by decide), fun _ => rfl⟩
set_option maxRecDepth 20000 in
theorem fl_2_25 : mm_PL 2 25 (0, 176, 2, 1, 11) := fun _ => ⟨by decide, mmX11_at, yX11_at, cX11_at, (some .int), mp_X11_at, mi_X11_at, pd_0, Or.inr ⟨rfl, wd_537⟩, fun _ => wd_403, fun z => absurd rfl z, fun z => absurd z (by decide), fun z => absurd z (by decide), fun _ => rfl⟩
set_option maxRecDepth 20000 in
theorem fl_2_29 : mm_PL 2 29 (1, 4, 1, 0, 0) := fun _ => ⟨by decide, mmX0_signAt, yX0_signAt, cX0_signAt, (some .int), mp_X0_signAt, mi_X0_signAt, pd_3, Or.inl ⟨rfl, wd_538⟩, fun z => absurd z (by decide), fun _ => wd_522, fun _ => ⟨wd_523, Or.inl ⟨rfl, by decide⟩, rfl⟩, fun z => absurd z (by decide), fun z => absurd z (by decide)⟩
set_option maxRecDepth 20000 in
theorem fl_3_25 : mm_PL 3 25 (0, 177, 3, 1, 11) := fun _ => ⟨by decide, mmX11_put, yX11_put, cX11_put, none, mp_X11_put, mi_X11_put, pd_1, Or.inr ⟨rfl, wd_544⟩, fun _ => wd_406, fun z => absurd rfl z, fun z => absurd z (by decide), fun z => absurd z (by decide), fun _ => rfl⟩
set_option maxRecDepth 20000 in
theorem fl_3_33 : mm_PL 3 33 (1, 32, 2, 0, 3) := fun _ => ⟨by decide, mmX3_fewestOf, yX3_fewestOf, cX3_fewestOf, (some .int), mp_X3_fewestOf, mi_X3_fewestOf, pd_8, Or.inl ⟨rfl, wd_549⟩, fun z => absurd z (by decide), fun _ => wd_551, fun _ => ⟨ws_2, Or.inl ⟨rfl, by decide⟩, rfl⟩, fun z => absurd z (by decide), fun z => absurd z (by decide)⟩
set_option maxRecDepth 20000 in
theorem fl_3_41 : mm_PL 3 41 (0, 179, 1, 1, 11) := fun _ => ⟨by decide, mmX11_lowestBit, yX11_lowestBit, cX11_lowestBit, (some .int), mp_X11_lowestBit, mi_X11_lowestBit, pd_3, Or.inr ⟨rfl, wd_553⟩, fun _ => wd_554, fun z => absurd rfl z, fun z => absurd z (by decide), fun z => absurd z (by decide), fun _ => rfl⟩
set_option maxRecDepth 20000 in
theorem fl_3_45 : mm_PL 3 45 (0, 293, 1, 0, 14) := fun _ => ⟨by decide, mmJ6_bitCount, yJ6_bitCount_0f7a4, cJ6_bitCount_0f7a4, (some .int), mp_J6_bitCount, mi_J6_bitCount, pd_3, Or.inl ⟨rfl, wd_556⟩, fun _ => wd_557, fun z => absurd rfl z, fun z => absurd z (by decide), fun z => absurd z (by decide), fun z => absurd z (by decide)⟩
set_option maxRecDepth 20000 in
theorem fl_3_29 : mm_PL 3 29 (0, 176, 2, 1, 11) := fun _ => ⟨by decide, mmX11_at, yX11_at, cX11_at, (some .int), mp_X11_at, mi_X11_at, pd_0, Or.inr ⟨rfl, wd_562⟩, fun _ => wd_403, fun z => absurd rfl z, fun z => absurd z (by decide), fun z => absurd z (by decide), fun _ => rfl⟩
set_option maxRecDepth 20000 in
theorem pd_15 : (parseMethodDescriptor yX3_withCouple.desc).map (fun d => d.parameters.length) = some 3 := by decide +kernel
theorem fl_3_51 : mm_PL 3 51 (1, 33, 3, 0, 3) := fun _ => ⟨by decide, mmX3_withCouple, yX3_withCouple, cX3_withCouple, (some .int), mp_X3_withCouple, mi_X3_withCouple, pd_15, Or.inl ⟨rfl, wd_564⟩, fun z => absurd z (by decide), fun _ => wd_566, fun _ => ⟨ws_3, Or.inl ⟨rfl, by decide⟩, rfl⟩, fun z => absurd z (by decide), fun z => absurd z (by decide)⟩
set_option maxRecDepth 20000 in
theorem pd_16 : (parseMethodDescriptor yX3_choosePartners.desc).map (fun d => d.parameters.length) = some 2 := by decide +kernel
theorem fl_3_37 : mm_PL 3 37 (1, 34, 2, 0, 3) := fun _ => ⟨by decide, mmX3_choosePartners, yX3_choosePartners, cX3_choosePartners, none, mp_X3_choosePartners, mi_X3_choosePartners, pd_16, Or.inl ⟨rfl, wd_569⟩, fun z => absurd z (by decide), fun _ => wd_571, fun _ => ⟨ws_4, Or.inl ⟨rfl, by decide⟩, rfl⟩, fun z => absurd z (by decide), fun z => absurd z (by decide)⟩
set_option maxRecDepth 20000 in
theorem fl_4_11 : mm_PL 4 11 (2, 78, 0, 1, 7) := fun _ => ⟨by decide, mmX7_init, yX7_init, cX7_init, none, mp_X7_init, mi_X7_init, pd_4, Or.inr ⟨rfl, wd_204⟩, fun z => absurd z (by decide), fun _ => wd_205, fun z => absurd z (by decide), fun _ => ⟨rfl, rfl, rfl⟩, fun _ => rfl⟩
set_option maxRecDepth 20000 in
theorem fl_4_45 : mm_PL 4 45 (1, 80, 1, 0, 7) := fun _ => ⟨by decide, mmX7_open, yX7_open, cX7_open, none, mp_X7_open, mi_X7_open, pd_13, Or.inl ⟨rfl, wd_697⟩, fun z => absurd z (by decide), fun _ => wd_698, fun _ => ⟨wd_699, Or.inl ⟨rfl, by decide⟩, rfl⟩, fun z => absurd z (by decide), fun z => absurd z (by decide)⟩
set_option maxRecDepth 20000 in
theorem fl_4_48 : mm_PL 4 48 (1, 88, 0, 0, 7) := fun _ => ⟨by decide, mmX7_kind, yX7_kind, cX7_kind, (some .int), mp_X7_kind, mi_X7_kind, pd_10, Or.inl ⟨rfl, wd_730⟩, fun z => absurd z (by decide), fun _ => wd_731, fun _ => ⟨wd_732, Or.inl ⟨rfl, by decide⟩, rfl⟩, fun z => absurd z (by decide), fun z => absurd z (by decide)⟩
set_option maxRecDepth 20000 in
theorem pd_17 : (parseMethodDescriptor yX7_spells.desc).map (fun d => d.parameters.length) = some 1 := by decide +kernel
theorem fl_4_57 : mm_PL 4 57 (1, 92, 1, 0, 7) := fun _ => ⟨by decide, mmX7_spells, yX7_spells, cX7_spells, (some .boolean), mp_X7_spells, mi_X7_spells, pd_17, Or.inl ⟨rfl, wd_739⟩, fun z => absurd z (by decide), fun _ => wd_740, fun _ => ⟨wd_741, Or.inl ⟨rfl, by decide⟩, rfl⟩, fun z => absurd z (by decide), fun z => absurd z (by decide)⟩
set_option maxRecDepth 20000 in
theorem pd_18 : (parseMethodDescriptor yX4_readWord.desc).map (fun d => d.parameters.length) = some 1 := by decide +kernel
theorem fl_4_67 : mm_PL 4 67 (1, 42, 1, 0, 4) := fun _ => ⟨by decide, mmX4_readWord, yX4_readWord, cX4_readWord, (some .boolean), mp_X4_readWord, mi_X4_readWord, pd_18, Or.inl ⟨rfl, wd_795⟩, fun z => absurd z (by decide), fun _ => wd_797, fun _ => ⟨ws_9, Or.inl ⟨rfl, by decide⟩, rfl⟩, fun z => absurd z (by decide), fun z => absurd z (by decide)⟩
set_option maxRecDepth 20000 in
theorem fl_4_102 : mm_PL 4 102 (1, 106, 0, 0, 10) := fun _ => ⟨by decide, mmX10_many, yX10_many, cX10_many, (some .int), mp_X10_many, mi_X10_many, pd_10, Or.inl ⟨rfl, wd_799⟩, fun z => absurd z (by decide), fun _ => wd_800, fun _ => ⟨wd_801, Or.inl ⟨rfl, by decide⟩, rfl⟩, fun z => absurd z (by decide), fun z => absurd z (by decide)⟩
set_option maxRecDepth 20000 in
theorem pd_19 : (parseMethodDescriptor yX4_blame.desc).map (fun d => d.parameters.length) = some 1 := by decide +kernel
theorem fl_4_95 : mm_PL 4 95 (1, 40, 1, 0, 4) := fun _ => ⟨by decide, mmX4_blame, yX4_blame, cX4_blame, (some .boolean), mp_X4_blame, mi_X4_blame, pd_19, Or.inl ⟨rfl, wd_803⟩, fun z => absurd z (by decide), fun _ => wd_805, fun _ => ⟨ws_10, Or.inl ⟨rfl, by decide⟩, rfl⟩, fun z => absurd z (by decide), fun z => absurd z (by decide)⟩
set_option maxRecDepth 20000 in
theorem fl_4_52 : mm_PL 4 52 (1, 89, 0, 0, 7) := fun _ => ⟨by decide, mmX7_start, yX7_start, cX7_start, (some .int), mp_X7_start, mi_X7_start, pd_10, Or.inl ⟨rfl, wd_807⟩, fun z => absurd z (by decide), fun _ => wd_808, fun _ => ⟨wd_809, Or.inl ⟨rfl, by decide⟩, rfl⟩, fun z => absurd z (by decide), fun z => absurd z (by decide)⟩
set_option maxRecDepth 20000 in
theorem fl_4_99 : mm_PL 4 99 (1, 81, 0, 0, 7) := fun _ => ⟨by decide, mmX7_step, yX7_step, cX7_step, none, mp_X7_step, mi_X7_step, pd_4, Or.inl ⟨rfl, wd_811⟩, fun z => absurd z (by decide), fun _ => wd_702, fun _ => ⟨wd_703, Or.inl ⟨rfl, by decide⟩, rfl⟩, fun z => absurd z (by decide), fun z => absurd z (by decide)⟩
set_option maxRecDepth 20000 in
theorem fl_4_107 : mm_PL 4 107 (1, 90, 0, 0, 7) := fun _ => ⟨by decide, mmX7_tokenSize, yX7_tokenSize, cX7_tokenSize, (some .int), mp_X7_tokenSize, mi_X7_tokenSize, pd_10, Or.inl ⟨rfl, wd_812⟩, fun z => absurd z (by decide), fun _ => wd_744, fun _ => ⟨wd_745, Or.inl ⟨rfl, by decide⟩, rfl⟩, fun z => absurd z (by decide), fun z => absurd z (by decide)⟩
set_option maxRecDepth 20000 in
theorem fl_4_110 : mm_PL 4 110 (1, 107, 1, 0, 10) := fun _ => ⟨by decide, mmX10_of, yX10_of, cX10_of, (some (.object "GrownWords$Letters")), mp_X10_of, mi_X10_of, pd_12, Or.inl ⟨rfl, wd_813⟩, fun z => absurd z (by decide), fun _ => wd_476, fun _ => ⟨wd_477, Or.inl ⟨rfl, by decide⟩, rfl⟩, fun z => absurd z (by decide), fun z => absurd z (by decide)⟩
set_option maxRecDepth 20000 in
theorem pd_20 : (parseMethodDescriptor yX7_spellInto.desc).map (fun d => d.parameters.length) = some 1 := by decide +kernel
theorem fl_4_114 : mm_PL 4 114 (1, 93, 1, 0, 7) := fun _ => ⟨by decide, mmX7_spellInto, yX7_spellInto, cX7_spellInto, none, mp_X7_spellInto, mi_X7_spellInto, pd_20, Or.inl ⟨rfl, wd_814⟩, fun z => absurd z (by decide), fun _ => wd_815, fun _ => ⟨wd_816, Or.inl ⟨rfl, by decide⟩, rfl⟩, fun z => absurd z (by decide), fun z => absurd z (by decide)⟩
set_option maxRecDepth 20000 in
theorem pd_21 : (parseMethodDescriptor yX10_hasAlready.desc).map (fun d => d.parameters.length) = some 1 := by decide +kernel
theorem fl_4_118 : mm_PL 4 118 (1, 108, 1, 0, 10) := fun _ => ⟨by decide, mmX10_hasAlready, yX10_hasAlready, cX10_hasAlready, (some .boolean), mp_X10_hasAlready, mi_X10_hasAlready, pd_21, Or.inl ⟨rfl, wd_820⟩, fun z => absurd z (by decide), fun _ => wd_821, fun _ => ⟨wd_822, Or.inl ⟨rfl, by decide⟩, rfl⟩, fun z => absurd z (by decide), fun z => absurd z (by decide)⟩
set_option maxRecDepth 20000 in
theorem fl_4_122 : mm_PL 4 122 (1, 43, 2, 0, 4) := fun _ => ⟨by decide, mmX4_readNumber, yX4_readNumber, cX4_readNumber, (some .int), mp_X4_readNumber, mi_X4_readNumber, pd_8, Or.inl ⟨rfl, wd_833⟩, fun z => absurd z (by decide), fun _ => wd_835, fun _ => ⟨ws_12, Or.inl ⟨rfl, by decide⟩, rfl⟩, fun z => absurd z (by decide), fun z => absurd z (by decide)⟩
set_option maxRecDepth 20000 in
theorem fl_4_129 : mm_PL 4 129 (1, 91, 0, 0, 7) := fun _ => ⟨by decide, mmX7_number, yX7_number, cX7_number, (some .int), mp_X7_number, mi_X7_number, pd_10, Or.inl ⟨rfl, wd_837⟩, fun z => absurd z (by decide), fun _ => wd_838, fun _ => ⟨wd_839, Or.inl ⟨rfl, by decide⟩, rfl⟩, fun z => absurd z (by decide), fun z => absurd z (by decide)⟩
set_option maxRecDepth 20000 in
theorem fl_4_126 : mm_PL 4 126 (1, 109, 1, 0, 10) := fun _ => ⟨by decide, mmX10_takeNext, yX10_takeNext, cX10_takeNext, none, mp_X10_takeNext, mi_X10_takeNext, pd_13, Or.inl ⟨rfl, wd_841⟩, fun z => absurd z (by decide), fun _ => wd_842, fun _ => ⟨wd_843, Or.inl ⟨rfl, by decide⟩, rfl⟩, fun z => absurd z (by decide), fun z => absurd z (by decide)⟩
set_option maxRecDepth 20000 in
theorem pd_22 : (parseMethodDescriptor yX4_readTrunk.desc).map (fun d => d.parameters.length) = some 2 := by decide +kernel
theorem fl_4_75 : mm_PL 4 75 (1, 44, 2, 0, 4) := fun _ => ⟨by decide, mmX4_readTrunk, yX4_readTrunk, cX4_readTrunk, (some .boolean), mp_X4_readTrunk, mi_X4_readTrunk, pd_22, Or.inl ⟨rfl, wd_848⟩, fun z => absurd z (by decide), fun _ => wd_850, fun _ => ⟨ws_13, Or.inl ⟨rfl, by decide⟩, rfl⟩, fun z => absurd z (by decide), fun z => absurd z (by decide)⟩
set_option maxRecDepth 20000 in
theorem pd_23 : (parseMethodDescriptor yX9_addTrunk.desc).map (fun d => d.parameters.length) = some 4 := by decide +kernel
theorem fl_4_141 : mm_PL 4 141 (1, 100, 4, 0, 9) := fun _ => ⟨by decide, mmX9_addTrunk, yX9_addTrunk, cX9_addTrunk, none, mp_X9_addTrunk, mi_X9_addTrunk, pd_23, Or.inl ⟨rfl, wd_852⟩, fun z => absurd z (by decide), fun _ => wd_853, fun _ => ⟨wd_854, Or.inl ⟨rfl, by decide⟩, rfl⟩, fun z => absurd z (by decide), fun z => absurd z (by decide)⟩
set_option maxRecDepth 20000 in
theorem pd_24 : (parseMethodDescriptor yX4_readHeat.desc).map (fun d => d.parameters.length) = some 1 := by decide +kernel
theorem fl_4_81 : mm_PL 4 81 (1, 45, 1, 0, 4) := fun _ => ⟨by decide, mmX4_readHeat, yX4_readHeat, cX4_readHeat, (some .boolean), mp_X4_readHeat, mi_X4_readHeat, pd_24, Or.inl ⟨rfl, wd_857⟩, fun z => absurd z (by decide), fun _ => wd_859, fun _ => ⟨ws_14, Or.inl ⟨rfl, by decide⟩, rfl⟩, fun z => absurd z (by decide), fun z => absurd z (by decide)⟩
set_option maxRecDepth 20000 in
theorem fl_4_148 : mm_PL 4 148 (1, 14, 1, 0, 1) := fun _ => ⟨by decide, mmX1_addHeat, yX1_addHeat, cX1_addHeat, none, mp_X1_addHeat, mi_X1_addHeat, pd_13, Or.inl ⟨rfl, wd_861⟩, fun z => absurd z (by decide), fun _ => wd_862, fun _ => ⟨wd_863, Or.inl ⟨rfl, by decide⟩, rfl⟩, fun z => absurd z (by decide), fun z => absurd z (by decide)⟩
set_option maxRecDepth 20000 in
theorem pd_25 : (parseMethodDescriptor yX4_readGrows.desc).map (fun d => d.parameters.length) = some 1 := by decide +kernel
theorem fl_4_91 : mm_PL 4 91 (1, 46, 1, 0, 4) := fun _ => ⟨by decide, mmX4_readGrows, yX4_readGrows, cX4_readGrows, (some .boolean), mp_X4_readGrows, mi_X4_readGrows, pd_25, Or.inl ⟨rfl, wd_867⟩, fun z => absurd z (by decide), fun _ => wd_869, fun _ => ⟨ws_15, Or.inl ⟨rfl, by decide⟩, rfl⟩, fun z => absurd z (by decide), fun z => absurd z (by decide)⟩
set_option maxRecDepth 20000 in
theorem fl_4_151 : mm_PL 4 151 (1, 59, 0, 0, 5) := fun _ => ⟨by decide, mmX5_isTold, yX5_isTold, cX5_isTold, (some .boolean), mp_X5_isTold, mi_X5_isTold, pd_7, Or.inl ⟨rfl, wd_871⟩, fun z => absurd z (by decide), fun _ => wd_436, fun _ => ⟨wd_437, Or.inl ⟨rfl, by decide⟩, rfl⟩, fun z => absurd z (by decide), fun z => absurd z (by decide)⟩
set_option maxRecDepth 20000 in
theorem pd_26 : (parseMethodDescriptor yX4_notsAnew.desc).map (fun d => d.parameters.length) = some 1 := by decide +kernel
theorem fl_4_157 : mm_PL 4 157 (1, 49, 1, 0, 4) := fun _ => ⟨by decide, mmX4_notsAnew, yX4_notsAnew, cX4_notsAnew, none, mp_X4_notsAnew, mi_X4_notsAnew, pd_26, Or.inl ⟨rfl, wd_872⟩, fun z => absurd z (by decide), fun _ => wd_874, fun _ => ⟨ws_16, Or.inl ⟨rfl, by decide⟩, rfl⟩, fun z => absurd z (by decide), fun z => absurd z (by decide)⟩
set_option maxRecDepth 20000 in
theorem fl_4_161 : mm_PL 4 161 (1, 47, 0, 0, 4) := fun _ => ⟨by decide, mmX4_exprEnds, yX4_exprEnds, cX4_exprEnds, (some .boolean), mp_X4_exprEnds, mi_X4_exprEnds, pd_7, Or.inl ⟨rfl, wd_876⟩, fun z => absurd z (by decide), fun _ => wd_878, fun _ => ⟨ws_17, Or.inl ⟨rfl, by decide⟩, rfl⟩, fun z => absurd z (by decide), fun z => absurd z (by decide)⟩
set_option maxRecDepth 20000 in
theorem fl_4_164 : mm_PL 4 164 (1, 48, 1, 0, 4) := fun _ => ⟨by decide, mmX4_readPart, yX4_readPart, cX4_readPart, (some .boolean), mp_X4_readPart, mi_X4_readPart, pd_25, Or.inl ⟨rfl, wd_880⟩, fun z => absurd z (by decide), fun _ => wd_882, fun _ => ⟨ws_18, Or.inl ⟨rfl, by decide⟩, rfl⟩, fun z => absurd z (by decide), fun z => absurd z (by decide)⟩
set_option maxRecDepth 20000 in
theorem fl_4_174 : mm_PL 4 174 (1, 51, 1, 0, 4) := fun _ => ⟨by decide, mmX4_openSign, yX4_openSign, cX4_openSign, none, mp_X4_openSign, mi_X4_openSign, pd_13, Or.inl ⟨rfl, wd_884⟩, fun z => absurd z (by decide), fun _ => wd_886, fun _ => ⟨ws_19, Or.inl ⟨rfl, by decide⟩, rfl⟩, fun z => absurd z (by decide), fun z => absurd z (by decide)⟩
set_option maxRecDepth 20000 in
theorem fl_4_195 : mm_PL 4 195 (0, 177, 3, 1, 11) := fun _ => ⟨by decide, mmX11_put, yX11_put, cX11_put, none, mp_X11_put, mi_X11_put, pd_1, Or.inr ⟨rfl, wd_888⟩, fun _ => wd_406, fun z => absurd rfl z, fun z => absurd z (by decide), fun z => absurd z (by decide), fun _ => rfl⟩
set_option maxRecDepth 20000 in
theorem fl_4_179 : mm_PL 4 179 (1, 54, 0, 0, 4) := fun _ => ⟨by decide, mmX4_valueOfWord, yX4_valueOfWord, cX4_valueOfWord, (some .int), mp_X4_valueOfWord, mi_X4_valueOfWord, pd_10, Or.inl ⟨rfl, wd_890⟩, fun z => absurd z (by decide), fun _ => wd_892, fun _ => ⟨ws_20, Or.inl ⟨rfl, by decide⟩, rfl⟩, fun z => absurd z (by decide), fun z => absurd z (by decide)⟩
set_option maxRecDepth 20000 in
theorem fl_4_182 : mm_PL 4 182 (1, 60, 1, 0, 5) := fun _ => ⟨by decide, mmX5_addStep, yX5_addStep, cX5_addStep, none, mp_X5_addStep, mi_X5_addStep, pd_13, Or.inl ⟨rfl, wd_900⟩, fun z => absurd z (by decide), fun _ => wd_901, fun _ => ⟨wd_902, Or.inl ⟨rfl, by decide⟩, rfl⟩, fun z => absurd z (by decide), fun z => absurd z (by decide)⟩
set_option maxRecDepth 20000 in
theorem fl_4_167 : mm_PL 4 167 (1, 50, 1, 0, 4) := fun _ => ⟨by decide, mmX4_readSign, yX4_readSign, cX4_readSign, (some .boolean), mp_X4_readSign, mi_X4_readSign, pd_25, Or.inl ⟨rfl, wd_904⟩, fun z => absurd z (by decide), fun _ => wd_906, fun _ => ⟨ws_21, Or.inl ⟨rfl, by decide⟩, rfl⟩, fun z => absurd z (by decide), fun z => absurd z (by decide)⟩
set_option maxRecDepth 20000 in
theorem pd_27 : (parseMethodDescriptor yX4_closeSigns.desc).map (fun d => d.parameters.length) = some 2 := by decide +kernel
theorem fl_4_170 : mm_PL 4 170 (1, 53, 2, 0, 4) := fun _ => ⟨by decide, mmX4_closeSigns, yX4_closeSigns, cX4_closeSigns, none, mp_X4_closeSigns, mi_X4_closeSigns, pd_27, Or.inl ⟨rfl, wd_908⟩, fun z => absurd z (by decide), fun _ => wd_910, fun _ => ⟨ws_22, Or.inl ⟨rfl, by decide⟩, rfl⟩, fun z => absurd z (by decide), fun z => absurd z (by decide)⟩
set_option maxRecDepth 20000 in
theorem fl_4_192 : mm_PL 4 192 (1, 52, 0, 0, 4) := fun _ => ⟨by decide, mmX4_lastOpen, yX4_lastOpen, cX4_lastOpen, (some .int), mp_X4_lastOpen, mi_X4_lastOpen, pd_10, Or.inl ⟨rfl, wd_912⟩, fun z => absurd z (by decide), fun _ => wd_914, fun _ => ⟨ws_23, Or.inl ⟨rfl, by decide⟩, rfl⟩, fun z => absurd z (by decide), fun z => absurd z (by decide)⟩
set_option maxRecDepth 20000 in
theorem fl_4_199 : mm_PL 4 199 (0, 176, 2, 1, 11) := fun _ => ⟨by decide, mmX11_at, yX11_at, cX11_at, (some .int), mp_X11_at, mi_X11_at, pd_0, Or.inr ⟨rfl, wd_916⟩, fun _ => wd_403, fun z => absurd rfl z, fun z => absurd z (by decide), fun z => absurd z (by decide), fun _ => rfl⟩
set_option maxRecDepth 20000 in
theorem fl_4_188 : mm_PL 4 188 (0, 56, 1, 0, 4) := fun _ => ⟨by decide, mmX4_rankOf, yX4_rankOf, cX4_rankOf, (some .int), mp_X4_rankOf, mi_X4_rankOf, pd_3, Or.inl ⟨rfl, wd_917⟩, fun _ => wd_918, fun z => absurd rfl z, fun z => absurd z (by decide), fun z => absurd z (by decide), fun z => absurd z (by decide)⟩
set_option maxRecDepth 20000 in
theorem fl_4_185 : mm_PL 4 185 (1, 55, 0, 0, 4) := fun _ => ⟨by decide, mmX4_signOfToken, yX4_signOfToken, cX4_signOfToken, (some .int), mp_X4_signOfToken, mi_X4_signOfToken, pd_10, Or.inl ⟨rfl, wd_920⟩, fun z => absurd z (by decide), fun _ => wd_922, fun _ => ⟨ws_24, Or.inl ⟨rfl, by decide⟩, rfl⟩, fun z => absurd z (by decide), fun z => absurd z (by decide)⟩
set_option maxRecDepth 20000 in
theorem fl_5_25 : mm_PL 5 25 (0, 177, 3, 1, 11) := fun _ => ⟨by decide, mmX11_put, yX11_put, cX11_put, none, mp_X11_put, mi_X11_put, pd_1, Or.inr ⟨rfl, wd_443⟩, fun _ => wd_406, fun z => absurd rfl z, fun z => absurd z (by decide), fun z => absurd z (by decide), fun _ => rfl⟩
set_option maxRecDepth 20000 in
theorem fl_5_37 : mm_PL 5 37 (0, 176, 2, 1, 11) := fun _ => ⟨by decide, mmX11_at, yX11_at, cX11_at, (some .int), mp_X11_at, mi_X11_at, pd_0, Or.inr ⟨rfl, wd_461⟩, fun _ => wd_403, fun z => absurd rfl z, fun z => absurd z (by decide), fun z => absurd z (by decide), fun _ => rfl⟩
set_option maxRecDepth 20000 in
theorem fl_5_41 : mm_PL 5 41 (0, 64, 3, 0, 5) := fun _ => ⟨by decide, mmX5_joined, yX5_joined, cX5_joined, (some .int), mp_X5_joined, mi_X5_joined, pd_15, Or.inl ⟨rfl, wd_462⟩, fun _ => wd_463, fun z => absurd rfl z, fun z => absurd z (by decide), fun z => absurd z (by decide), fun z => absurd z (by decide)⟩
set_option maxRecDepth 20000 in
theorem fl_6_11 : mm_PL 6 11 (2, 98, 0, 0, 9) := fun _ => ⟨by decide, mmX9_init, yX9_init, cX9_init, none, mp_X9_init, mi_X9_init, pd_4, Or.inl ⟨rfl, wd_268⟩, fun z => absurd z (by decide), fun _ => wd_94, fun z => absurd z (by decide), fun _ => ⟨rfl, rfl, rfl⟩, fun z => absurd z (by decide)⟩
set_option maxRecDepth 20000 in
theorem fl_6_52 : mm_PL 6 52 (0, 176, 2, 1, 11) := fun _ => ⟨by decide, mmX11_at, yX11_at, cX11_at, (some .int), mp_X11_at, mi_X11_at, pd_0, Or.inr ⟨rfl, wd_402⟩, fun _ => wd_403, fun z => absurd rfl z, fun z => absurd z (by decide), fun z => absurd z (by decide), fun _ => rfl⟩
set_option maxRecDepth 20000 in
theorem fl_6_56 : mm_PL 6 56 (0, 177, 3, 1, 11) := fun _ => ⟨by decide, mmX11_put, yX11_put, cX11_put, none, mp_X11_put, mi_X11_put, pd_1, Or.inr ⟨rfl, wd_405⟩, fun _ => wd_406, fun z => absurd rfl z, fun z => absurd z (by decide), fun z => absurd z (by decide), fun _ => rfl⟩
set_option maxRecDepth 20000 in
theorem pd_28 : (parseMethodDescriptor yX9_saveIn.desc).map (fun d => d.parameters.length) = some 2 := by decide +kernel
theorem fl_6_60 : mm_PL 6 60 (1, 102, 2, 0, 9) := fun _ => ⟨by decide, mmX9_saveIn, yX9_saveIn, cX9_saveIn, none, mp_X9_saveIn, mi_X9_saveIn, pd_28, Or.inl ⟨rfl, wd_412⟩, fun z => absurd z (by decide), fun _ => wd_413, fun _ => ⟨wd_414, Or.inl ⟨rfl, by decide⟩, rfl⟩, fun z => absurd z (by decide), fun z => absurd z (by decide)⟩
set_option maxRecDepth 20000 in
theorem fl_6_64 : mm_PL 6 64 (1, 103, 2, 0, 9) := fun _ => ⟨by decide, mmX9_takeFrom, yX9_takeFrom, cX9_takeFrom, none, mp_X9_takeFrom, mi_X9_takeFrom, pd_28, Or.inl ⟨rfl, wd_495⟩, fun z => absurd z (by decide), fun _ => wd_496, fun _ => ⟨wd_497, Or.inl ⟨rfl, by decide⟩, rfl⟩, fun z => absurd z (by decide), fun z => absurd z (by decide)⟩
set_option maxRecDepth 20000 in
theorem pd_29 : (parseMethodDescriptor yX9_copyAll.desc).map (fun d => d.parameters.length) = some 1 := by decide +kernel
theorem fl_6_44 : mm_PL 6 44 (1, 101, 1, 0, 9) := fun _ => ⟨by decide, mmX9_copyAll, yX9_copyAll, cX9_copyAll, none, mp_X9_copyAll, mi_X9_copyAll, pd_29, Or.inl ⟨rfl, wd_593⟩, fun z => absurd z (by decide), fun _ => wd_594, fun _ => ⟨wd_595, Or.inl ⟨rfl, by decide⟩, rfl⟩, fun z => absurd z (by decide), fun z => absurd z (by decide)⟩
set_option maxRecDepth 20000 in
theorem pd_30 : (parseMethodDescriptor yX11_copyRow.desc).map (fun d => d.parameters.length) = some 2 := by decide +kernel
theorem fl_6_48 : mm_PL 6 48 (0, 178, 2, 1, 11) := fun _ => ⟨by decide, mmX11_copyRow, yX11_copyRow, cX11_copyRow, none, mp_X11_copyRow, mi_X11_copyRow, pd_30, Or.inr ⟨rfl, wd_601⟩, fun _ => wd_602, fun z => absurd rfl z, fun z => absurd z (by decide), fun z => absurd z (by decide), fun _ => rfl⟩
set_option maxRecDepth 20000 in
theorem fl_7_34 : mm_PL 7 34 (1, 81, 0, 0, 7) := fun _ => ⟨by decide, mmX7_step, yX7_step, cX7_step, none, mp_X7_step, mi_X7_step, pd_4, Or.inl ⟨rfl, wd_701⟩, fun z => absurd z (by decide), fun _ => wd_702, fun _ => ⟨wd_703, Or.inl ⟨rfl, by decide⟩, rfl⟩, fun z => absurd z (by decide), fun z => absurd z (by decide)⟩
set_option maxRecDepth 20000 in
theorem fl_7_37 : mm_PL 7 37 (1, 84, 1, 0, 7) := fun _ => ⟨by decide, mmX7_byteAt, yX7_byteAt, cX7_byteAt, (some .int), mp_X7_byteAt, mi_X7_byteAt, pd_3, Or.inl ⟨rfl, wd_705⟩, fun z => absurd z (by decide), fun _ => wd_707, fun _ => ⟨ws_6, Or.inl ⟨rfl, by decide⟩, rfl⟩, fun z => absurd z (by decide), fun z => absurd z (by decide)⟩
set_option maxRecDepth 20000 in
theorem fl_7_41 : mm_PL 7 41 (0, 85, 1, 0, 7) := fun _ => ⟨by decide, mmX7_isLetter, yX7_isLetter, cX7_isLetter, (some .boolean), mp_X7_isLetter, mi_X7_isLetter, pd_19, Or.inl ⟨rfl, wd_709⟩, fun _ => wd_710, fun z => absurd rfl z, fun z => absurd z (by decide), fun z => absurd z (by decide), fun z => absurd z (by decide)⟩
set_option maxRecDepth 20000 in
theorem fl_7_45 : mm_PL 7 45 (1, 82, 0, 0, 7) := fun _ => ⟨by decide, mmX7_stepWord, yX7_stepWord, cX7_stepWord, none, mp_X7_stepWord, mi_X7_stepWord, pd_4, Or.inl ⟨rfl, wd_712⟩, fun z => absurd z (by decide), fun _ => wd_714, fun _ => ⟨ws_7, Or.inl ⟨rfl, by decide⟩, rfl⟩, fun z => absurd z (by decide), fun z => absurd z (by decide)⟩
set_option maxRecDepth 20000 in
theorem fl_7_48 : mm_PL 7 48 (0, 86, 1, 0, 7) := fun _ => ⟨by decide, mmX7_isDigit, yX7_isDigit, cX7_isDigit, (some .boolean), mp_X7_isDigit, mi_X7_isDigit, pd_19, Or.inl ⟨rfl, wd_716⟩, fun _ => wd_717, fun z => absurd rfl z, fun z => absurd z (by decide), fun z => absurd z (by decide), fun z => absurd z (by decide)⟩
set_option maxRecDepth 20000 in
theorem fl_7_51 : mm_PL 7 51 (1, 83, 0, 0, 7) := fun _ => ⟨by decide, mmX7_stepNumber, yX7_stepNumber, cX7_stepNumber, none, mp_X7_stepNumber, mi_X7_stepNumber, pd_4, Or.inl ⟨rfl, wd_719⟩, fun z => absurd z (by decide), fun _ => wd_721, fun _ => ⟨ws_8, Or.inl ⟨rfl, by decide⟩, rfl⟩, fun z => absurd z (by decide), fun z => absurd z (by decide)⟩
set_option maxRecDepth 20000 in
theorem fl_7_54 : mm_PL 7 54 (0, 87, 1, 0, 7) := fun _ => ⟨by decide, mmX7_isSign, yX7_isSign, cX7_isSign, (some .boolean), mp_X7_isSign, mi_X7_isSign, pd_19, Or.inl ⟨rfl, wd_723⟩, fun _ => wd_724, fun z => absurd rfl z, fun z => absurd z (by decide), fun z => absurd z (by decide), fun z => absurd z (by decide)⟩
set_option maxRecDepth 20000 in
theorem fl_7_57 : mm_PL 7 57 (1, 90, 0, 0, 7) := fun _ => ⟨by decide, mmX7_tokenSize, yX7_tokenSize, cX7_tokenSize, (some .int), mp_X7_tokenSize, mi_X7_tokenSize, pd_10, Or.inl ⟨rfl, wd_743⟩, fun z => absurd z (by decide), fun _ => wd_744, fun _ => ⟨wd_745, Or.inl ⟨rfl, by decide⟩, rfl⟩, fun z => absurd z (by decide), fun z => absurd z (by decide)⟩
set_option maxRecDepth 20000 in
theorem fl_7_61 : mm_PL 7 61 (1, 294, 0, 0, 107) := fun _ => ⟨by decide, mmJ0_length, yJ0_length_8abf5, cJ0_length_8abf5, (some .int), mp_J0_length, mi_J0_length, pd_10, Or.inl ⟨rfl, wd_747⟩, fun z => absurd z (by decide), fun _ => wd_748, fun _ => ⟨wd_749, Or.inr ⟨rfl, rfl⟩, rfl⟩, fun z => absurd z (by decide), fun z => absurd z (by decide)⟩
set_option maxRecDepth 20000 in
theorem pd_31 : (parseMethodDescriptor yJ0_charAt_5068e.desc).map (fun d => d.parameters.length) = some 1 := by decide +kernel
theorem fl_7_65 : mm_PL 7 65 (1, 295, 1, 0, 107) := fun _ => ⟨by decide, mmJ0_charAt, yJ0_charAt_5068e, cJ0_charAt_5068e, (some .char), mp_J0_charAt, mi_J0_charAt, pd_31, Or.inl ⟨rfl, wd_757⟩, fun z => absurd z (by decide), fun _ => wd_758, fun _ => ⟨wd_759, Or.inr ⟨rfl, rfl⟩, rfl⟩, fun z => absurd z (by decide), fun z => absurd z (by decide)⟩
set_option maxRecDepth 20000 in
theorem fl_7_69 : mm_PL 7 69 (1, 1, 0, 0, 0) := fun _ => ⟨by decide, mmX0_empty, yX0_empty, cX0_empty, none, mp_X0_empty, mi_X0_empty, pd_4, Or.inl ⟨rfl, wd_818⟩, fun z => absurd z (by decide), fun _ => wd_518, fun _ => ⟨wd_519, Or.inl ⟨rfl, by decide⟩, rfl⟩, fun z => absurd z (by decide), fun z => absurd z (by decide)⟩
set_option maxRecDepth 20000 in
theorem fl_7_74 : mm_PL 7 74 (1, 2, 1, 0, 0) := fun _ => ⟨by decide, mmX0_addLetter, yX0_addLetter, cX0_addLetter, none, mp_X0_addLetter, mi_X0_addLetter, pd_13, Or.inl ⟨rfl, wd_819⟩, fun z => absurd z (by decide), fun _ => wd_527, fun _ => ⟨wd_528, Or.inl ⟨rfl, by decide⟩, rfl⟩, fun z => absurd z (by decide), fun z => absurd z (by decide)⟩
set_option maxRecDepth 20000 in
theorem fl_9_17 : mm_PL 9 17 (2, 94, 0, 1, 8) := fun _ => ⟨by decide, mmX8_init, yX8_init, cX8_init, none, mp_X8_init, mi_X8_init, pd_4, Or.inr ⟨rfl, wd_100⟩, fun z => absurd z (by decide), fun _ => wd_101, fun z => absurd z (by decide), fun _ => ⟨rfl, rfl, rfl⟩, fun _ => rfl⟩
set_option maxRecDepth 20000 in
theorem fl_9_53 : mm_PL 9 53 (0, 177, 3, 1, 11) := fun _ => ⟨by decide, mmX11_put, yX11_put, cX11_put, none, mp_X11_put, mi_X11_put, pd_1, Or.inr ⟨rfl, wd_416⟩, fun _ => wd_406, fun z => absurd rfl z, fun z => absurd z (by decide), fun z => absurd z (by decide), fun _ => rfl⟩
set_option maxRecDepth 20000 in
theorem fl_9_29 : mm_PL 9 29 (1, 99, 1, 0, 9) := fun _ => ⟨by decide, mmX9_get, yX9_get, cX9_get, (some (.object "GrownWords$Trunk")), mp_X9_get, mi_X9_get, pd_5, Or.inl ⟨rfl, wd_417⟩, fun z => absurd z (by decide), fun _ => wd_418, fun _ => ⟨wd_419, Or.inl ⟨rfl, by decide⟩, rfl⟩, fun z => absurd z (by decide), fun z => absurd z (by decide)⟩
set_option maxRecDepth 20000 in
theorem fl_9_57 : mm_PL 9 57 (0, 176, 2, 1, 11) := fun _ => ⟨by decide, mmX11_at, yX11_at, cX11_at, (some .int), mp_X11_at, mi_X11_at, pd_0, Or.inr ⟨rfl, wd_499⟩, fun _ => wd_403, fun z => absurd rfl z, fun z => absurd z (by decide), fun z => absurd z (by decide), fun _ => rfl⟩
set_option maxRecDepth 20000 in
theorem pd_32 : (parseMethodDescriptor yX8_becomeAs.desc).map (fun d => d.parameters.length) = some 1 := by decide +kernel
theorem fl_9_49 : mm_PL 9 49 (1, 95, 1, 0, 8) := fun _ => ⟨by decide, mmX8_becomeAs, yX8_becomeAs, cX8_becomeAs, none, mp_X8_becomeAs, mi_X8_becomeAs, pd_32, Or.inl ⟨rfl, wd_597⟩, fun z => absurd z (by decide), fun _ => wd_598, fun _ => ⟨wd_599, Or.inl ⟨rfl, by decide⟩, rfl⟩, fun z => absurd z (by decide), fun z => absurd z (by decide)⟩
set_option maxRecDepth 20000 in
theorem fl_10_17 : mm_PL 10 17 (2, 0, 1, 0, 0) := fun _ => ⟨by decide, mmX0_init, yX0_init, cX0_init, none, mp_X0_init, mi_X0_init, pd_13, Or.inl ⟨rfl, wd_48⟩, fun z => absurd z (by decide), fun _ => wd_49, fun z => absurd z (by decide), fun _ => ⟨rfl, rfl, rfl⟩, fun z => absurd z (by decide)⟩
set_option maxRecDepth 20000 in
theorem fl_10_62 : mm_PL 10 62 (0, 176, 2, 1, 11) := fun _ => ⟨by decide, mmX11_at, yX11_at, cX11_at, (some .int), mp_X11_at, mi_X11_at, pd_0, Or.inr ⟨rfl, wd_448⟩, fun _ => wd_403, fun z => absurd rfl z, fun z => absurd z (by decide), fun z => absurd z (by decide), fun _ => rfl⟩
set_option maxRecDepth 20000 in
theorem fl_10_50 : mm_PL 10 50 (1, 107, 1, 0, 10) := fun _ => ⟨by decide, mmX10_of, yX10_of, cX10_of, (some (.object "GrownWords$Letters")), mp_X10_of, mi_X10_of, pd_12, Or.inl ⟨rfl, wd_824⟩, fun z => absurd z (by decide), fun _ => wd_476, fun _ => ⟨wd_477, Or.inl ⟨rfl, by decide⟩, rfl⟩, fun z => absurd z (by decide), fun z => absurd z (by decide)⟩
set_option maxRecDepth 20000 in
theorem fl_10_54 : mm_PL 10 54 (1, 6, 1, 0, 0) := fun _ => ⟨by decide, mmX0_isSame, yX0_isSame, cX0_isSame, (some .boolean), mp_X0_isSame, mi_X0_isSame, pd_21, Or.inl ⟨rfl, wd_825⟩, fun z => absurd z (by decide), fun _ => wd_826, fun _ => ⟨wd_827, Or.inl ⟨rfl, by decide⟩, rfl⟩, fun z => absurd z (by decide), fun z => absurd z (by decide)⟩
set_option maxRecDepth 20000 in
theorem fl_10_58 : mm_PL 10 58 (0, 177, 3, 1, 11) := fun _ => ⟨by decide, mmX11_put, yX11_put, cX11_put, none, mp_X11_put, mi_X11_put, pd_1, Or.inr ⟨rfl, wd_845⟩, fun _ => wd_406, fun z => absurd rfl z, fun z => absurd z (by decide), fun z => absurd z (by decide), fun _ => rfl⟩
set_option maxRecDepth 20000 in
theorem pd_33 : (parseMethodDescriptor yX0_overlapWith.desc).map (fun d => d.parameters.length) = some 1 := by decide +kernel
theorem fl_10_72 : mm_PL 10 72 (1, 9, 1, 0, 0) := fun _ => ⟨by decide, mmX0_overlapWith, yX0_overlapWith, cX0_overlapWith, (some .int), mp_X0_overlapWith, mi_X0_overlapWith, pd_33, Or.inl ⟨rfl, wd_938⟩, fun z => absurd z (by decide), fun _ => wd_939, fun _ => ⟨wd_940, Or.inl ⟨rfl, by decide⟩, rfl⟩, fun z => absurd z (by decide), fun z => absurd z (by decide)⟩
set_option maxRecDepth 20000 in
theorem fl_10_76 : mm_PL 10 76 (1, 5, 0, 0, 0) := fun _ => ⟨by decide, mmX0_last, yX0_last, cX0_last, (some .int), mp_X0_last, mi_X0_last, pd_10, Or.inl ⟨rfl, wd_944⟩, fun z => absurd z (by decide), fun _ => wd_945, fun _ => ⟨wd_946, Or.inl ⟨rfl, by decide⟩, rfl⟩, fun z => absurd z (by decide), fun z => absurd z (by decide)⟩
set_option maxRecDepth 20000 in
theorem fl_10_80 : mm_PL 10 80 (1, 4, 1, 0, 0) := fun _ => ⟨by decide, mmX0_signAt, yX0_signAt, cX0_signAt, (some .int), mp_X0_signAt, mi_X0_signAt, pd_3, Or.inl ⟨rfl, wd_948⟩, fun z => absurd z (by decide), fun _ => wd_522, fun _ => ⟨wd_523, Or.inl ⟨rfl, by decide⟩, rfl⟩, fun z => absurd z (by decide), fun z => absurd z (by decide)⟩
set_option maxRecDepth 20000 in
theorem pd_34 : (parseMethodDescriptor yX10_findOrder.desc).map (fun d => d.parameters.length) = some 3 := by decide +kernel
theorem fl_10_84 : mm_PL 10 84 (1, 119, 3, 0, 10) := fun _ => ⟨by decide, mmX10_findOrder, yX10_findOrder, cX10_findOrder, (some .int), mp_X10_findOrder, mi_X10_findOrder, pd_34, Or.inl ⟨rfl, wd_949⟩, fun z => absurd z (by decide), fun _ => wd_951, fun _ => ⟨ws_25, Or.inl ⟨rfl, by decide⟩, rfl⟩, fun z => absurd z (by decide), fun z => absurd z (by decide)⟩
set_option maxRecDepth 20000 in
theorem fl_10_98 : mm_PL 10 98 (1, 120, 2, 0, 10) := fun _ => ⟨by decide, mmX10_fillRoom, yX10_fillRoom, cX10_fillRoom, none, mp_X10_fillRoom, mi_X10_fillRoom, pd_30, Or.inl ⟨rfl, wd_953⟩, fun z => absurd z (by decide), fun _ => wd_955, fun _ => ⟨ws_26, Or.inl ⟨rfl, by decide⟩, rfl⟩, fun z => absurd z (by decide), fun z => absurd z (by decide)⟩
set_option maxRecDepth 20000 in
theorem pd_35 : (parseMethodDescriptor yX10_firstNext.desc).map (fun d => d.parameters.length) = some 5 := by decide +kernel
theorem fl_10_107 : mm_PL 10 107 (1, 121, 5, 0, 10) := fun _ => ⟨by decide, mmX10_firstNext, yX10_firstNext, cX10_firstNext, (some .int), mp_X10_firstNext, mi_X10_firstNext, pd_35, Or.inl ⟨rfl, wd_958⟩, fun z => absurd z (by decide), fun _ => wd_960, fun _ => ⟨ws_27, Or.inl ⟨rfl, by decide⟩, rfl⟩, fun z => absurd z (by decide), fun z => absurd z (by decide)⟩
set_option maxRecDepth 20000 in
theorem fl_10_88 : mm_PL 10 88 (1, 113, 1, 0, 10) := fun _ => ⟨by decide, mmX10_inRow, yX10_inRow, cX10_inRow, (some .int), mp_X10_inRow, mi_X10_inRow, pd_3, Or.inl ⟨rfl, wd_962⟩, fun z => absurd z (by decide), fun _ => wd_963, fun _ => ⟨wd_964, Or.inl ⟨rfl, by decide⟩, rfl⟩, fun z => absurd z (by decide), fun z => absurd z (by decide)⟩
set_option maxRecDepth 20000 in
theorem fl_10_91 : mm_PL 10 91 (1, 3, 0, 0, 0) := fun _ => ⟨by decide, mmX0_length, yX0_length, cX0_length, (some .int), mp_X0_length, mi_X0_length, pd_10, Or.inl ⟨rfl, wd_966⟩, fun z => absurd z (by decide), fun _ => wd_480, fun _ => ⟨wd_481, Or.inl ⟨rfl, by decide⟩, rfl⟩, fun z => absurd z (by decide), fun z => absurd z (by decide)⟩
set_option maxRecDepth 20000 in
theorem fl_10_94 : mm_PL 10 94 (1, 111, 2, 0, 10) := fun _ => ⟨by decide, mmX10_overlapOf, yX10_overlapOf, cX10_overlapOf, (some .int), mp_X10_overlapOf, mi_X10_overlapOf, pd_8, Or.inl ⟨rfl, wd_967⟩, fun z => absurd z (by decide), fun _ => wd_450, fun _ => ⟨wd_451, Or.inl ⟨rfl, by decide⟩, rfl⟩, fun z => absurd z (by decide), fun z => absurd z (by decide)⟩
set_option maxRecDepth 20000 in
theorem fl_10_66 : mm_PL 10 66 (1, 7, 1, 0, 0) := fun _ => ⟨by decide, mmX0_holds, yX0_holds, cX0_holds, (some .boolean), mp_X0_holds, mi_X0_holds, pd_21, Or.inl ⟨rfl, wd_1046⟩, fun z => absurd z (by decide), fun _ => wd_1047, fun _ => ⟨wd_1048, Or.inl ⟨rfl, by decide⟩, rfl⟩, fun z => absurd z (by decide), fun z => absurd z (by decide)⟩
set_option maxRecDepth 20000 in
theorem fl_10_69 : mm_PL 10 69 (1, 10, 1, 0, 0) := fun _ => ⟨by decide, mmX0_isAnagram, yX0_isAnagram, cX0_isAnagram, (some .boolean), mp_X0_isAnagram, mi_X0_isAnagram, pd_21, Or.inl ⟨rfl, wd_1054⟩, fun z => absurd z (by decide), fun _ => wd_1055, fun _ => ⟨wd_1056, Or.inl ⟨rfl, by decide⟩, rfl⟩, fun z => absurd z (by decide), fun z => absurd z (by decide)⟩
set_option maxRecDepth 20000 in
theorem fl_11_15 : mm_PL 11 15 (2, 12, 0, 1, 1) := fun _ => ⟨by decide, mmX1_init, yX1_init, cX1_init, none, mp_X1_init, mi_X1_init, pd_4, Or.inr ⟨rfl, wd_35⟩, fun z => absurd z (by decide), fun _ => wd_36, fun z => absurd z (by decide), fun _ => ⟨rfl, rfl, rfl⟩, fun _ => rfl⟩
set_option maxRecDepth 20000 in
theorem fl_11_25 : mm_PL 11 25 (2, 35, 0, 1, 4) := fun _ => ⟨by decide, mmX4_init, yX4_init, cX4_init, none, mp_X4_init, mi_X4_init, pd_4, Or.inr ⟨rfl, wd_198⟩, fun z => absurd z (by decide), fun _ => wd_199, fun z => absurd z (by decide), fun _ => ⟨rfl, rfl, rfl⟩, fun _ => rfl⟩
set_option maxRecDepth 20000 in
theorem fl_11_36 : mm_PL 11 36 (2, 65, 0, 1, 6) := fun _ => ⟨by decide, mmX6_init, yX6_init, cX6_init, none, mp_X6_init, mi_X6_init, pd_4, Or.inr ⟨rfl, wd_263⟩, fun z => absurd z (by decide), fun _ => wd_264, fun z => absurd z (by decide), fun _ => ⟨rfl, rfl, rfl⟩, fun _ => rfl⟩
set_option maxRecDepth 20000 in
theorem fl_11_50 : mm_PL 11 50 (2, 24, 0, 1, 2) := fun _ => ⟨by decide, mmX2_init, yX2_init, cX2_init, none, mp_X2_init, mi_X2_init, pd_4, Or.inr ⟨rfl, wd_300⟩, fun z => absurd z (by decide), fun _ => wd_301, fun z => absurd z (by decide), fun _ => ⟨rfl, rfl, rfl⟩, fun _ => rfl⟩
set_option maxRecDepth 20000 in
theorem fl_11_57 : mm_PL 11 57 (2, 27, 0, 1, 3) := fun _ => ⟨by decide, mmX3_init, yX3_init, cX3_init, none, mp_X3_init, mi_X3_init, pd_4, Or.inr ⟨rfl, wd_310⟩, fun z => absurd z (by decide), fun _ => wd_311, fun z => absurd z (by decide), fun _ => ⟨rfl, rfl, rfl⟩, fun _ => rfl⟩
set_option maxRecDepth 20000 in
theorem fl_11_64 : mm_PL 11 64 (2, 94, 0, 1, 8) := fun _ => ⟨by decide, mmX8_init, yX8_init, cX8_init, none, mp_X8_init, mi_X8_init, pd_4, Or.inr ⟨rfl, wd_328⟩, fun z => absurd z (by decide), fun _ => wd_101, fun z => absurd z (by decide), fun _ => ⟨rfl, rfl, rfl⟩, fun _ => rfl⟩
set_option maxRecDepth 20000 in
theorem fl_11_74 : mm_PL 11 74 (2, 98, 0, 0, 9) := fun _ => ⟨by decide, mmX9_init, yX9_init, cX9_init, none, mp_X9_init, mi_X9_init, pd_4, Or.inl ⟨rfl, wd_330⟩, fun z => absurd z (by decide), fun _ => wd_94, fun z => absurd z (by decide), fun _ => ⟨rfl, rfl, rfl⟩, fun z => absurd z (by decide)⟩
set_option maxRecDepth 20000 in
theorem fl_11_81 : mm_PL 11 81 (2, 0, 1, 0, 0) := fun _ => ⟨by decide, mmX0_init, yX0_init, cX0_init, none, mp_X0_init, mi_X0_init, pd_13, Or.inl ⟨rfl, wd_332⟩, fun z => absurd z (by decide), fun _ => wd_49, fun z => absurd z (by decide), fun _ => ⟨rfl, rfl, rfl⟩, fun z => absurd z (by decide)⟩
set_option maxRecDepth 20000 in
theorem fl_11_103 : mm_PL 11 103 (1, 79, 1, 0, 7) := fun _ => ⟨by decide, mmX7_takeBytes, yX7_takeBytes, cX7_takeBytes, none, mp_X7_takeBytes, mi_X7_takeBytes, pd_13, Or.inl ⟨rfl, wd_386⟩, fun z => absurd z (by decide), fun _ => wd_387, fun _ => ⟨wd_388, Or.inl ⟨rfl, by decide⟩, rfl⟩, fun z => absurd z (by decide), fun z => absurd z (by decide)⟩
set_option maxRecDepth 20000 in
theorem fl_11_131 : mm_PL 11 131 (1, 68, 1, 0, 6) := fun _ => ⟨by decide, mmX6_refuse, yX6_refuse, cX6_refuse, (some .int), mp_X6_refuse, mi_X6_refuse, pd_3, Or.inl ⟨rfl, wd_398⟩, fun z => absurd z (by decide), fun _ => wd_399, fun _ => ⟨wd_400, Or.inl ⟨rfl, by decide⟩, rfl⟩, fun z => absurd z (by decide), fun z => absurd z (by decide)⟩
set_option maxRecDepth 20000 in
theorem fl_11_253 : mm_PL 11 253 (1, 71, 0, 0, 6) := fun _ => ⟨by decide, mmX6_keepAct, yX6_keepAct, cX6_keepAct, none, mp_X6_keepAct, mi_X6_keepAct, pd_4, Or.inl ⟨rfl, wd_408⟩, fun z => absurd z (by decide), fun _ => wd_409, fun _ => ⟨wd_410, Or.inl ⟨rfl, by decide⟩, rfl⟩, fun z => absurd z (by decide), fun z => absurd z (by decide)⟩
set_option maxRecDepth 20000 in
theorem fl_11_256 : mm_PL 11 256 (1, 22, 1, 0, 1) := fun _ => ⟨by decide, mmX1_passDay, yX1_passDay, cX1_passDay, none, mp_X1_passDay, mi_X1_passDay, pd_29, Or.inl ⟨rfl, wd_421⟩, fun z => absurd z (by decide), fun _ => wd_422, fun _ => ⟨wd_423, Or.inl ⟨rfl, by decide⟩, rfl⟩, fun z => absurd z (by decide), fun z => absurd z (by decide)⟩
set_option maxRecDepth 20000 in
theorem fl_11_177 : mm_PL 11 177 (1, 70, 0, 0, 6) := fun _ => ⟨by decide, mmX6_actsKept, yX6_actsKept, cX6_actsKept, (some .int), mp_X6_actsKept, mi_X6_actsKept, pd_10, Or.inl ⟨rfl, wd_487⟩, fun z => absurd z (by decide), fun _ => wd_488, fun _ => ⟨wd_489, Or.inl ⟨rfl, by decide⟩, rfl⟩, fun z => absurd z (by decide), fun z => absurd z (by decide)⟩
set_option maxRecDepth 20000 in
theorem fl_11_276 : mm_PL 11 276 (1, 72, 0, 0, 6) := fun _ => ⟨by decide, mmX6_undoAct, yX6_undoAct, cX6_undoAct, none, mp_X6_undoAct, mi_X6_undoAct, pd_4, Or.inl ⟨rfl, wd_491⟩, fun z => absurd z (by decide), fun _ => wd_492, fun _ => ⟨wd_493, Or.inl ⟨rfl, by decide⟩, rfl⟩, fun z => absurd z (by decide), fun z => absurd z (by decide)⟩
set_option maxRecDepth 20000 in
theorem fl_11_247 : mm_PL 11 247 (1, 153, 0, 0, 11) := fun _ => ⟨by decide, mmX11_findCouples, yX11_findCouples, cX11_findCouples, none, mp_X11_findCouples, mi_X11_findCouples, pd_4, Or.inl ⟨rfl, wd_504⟩, fun z => absurd z (by decide), fun _ => wd_506, fun _ => ⟨ws_0, Or.inl ⟨rfl, by decide⟩, rfl⟩, fun z => absurd z (by decide), fun z => absurd z (by decide)⟩
set_option maxRecDepth 20000 in
theorem fl_11_155 : mm_PL 11 155 (1, 127, 0, 0, 11) := fun _ => ⟨by decide, mmX11_trunkCount, yX11_trunkCount, cX11_trunkCount, (some .int), mp_X11_trunkCount, mi_X11_trunkCount, pd_10, Or.inl ⟨rfl, wd_508⟩, fun z => absurd z (by decide), fun _ => wd_510, fun _ => ⟨ws_1, Or.inl ⟨rfl, by decide⟩, rfl⟩, fun z => absurd z (by decide), fun z => absurd z (by decide)⟩
set_option maxRecDepth 20000 in
theorem fl_11_192 : mm_PL 11 192 (1, 99, 1, 0, 9) := fun _ => ⟨by decide, mmX9_get, yX9_get, cX9_get, (some (.object "GrownWords$Trunk")), mp_X9_get, mi_X9_get, pd_5, Or.inl ⟨rfl, wd_512⟩, fun z => absurd z (by decide), fun _ => wd_418, fun _ => ⟨wd_419, Or.inl ⟨rfl, by decide⟩, rfl⟩, fun z => absurd z (by decide), fun z => absurd z (by decide)⟩
set_option maxRecDepth 20000 in
theorem pd_36 : (parseMethodDescriptor yX1_blendInto.desc).map (fun d => d.parameters.length) = some 2 := by decide +kernel
theorem fl_11_286 : mm_PL 11 286 (1, 19, 2, 0, 1) := fun _ => ⟨by decide, mmX1_blendInto, yX1_blendInto, cX1_blendInto, none, mp_X1_blendInto, mi_X1_blendInto, pd_36, Or.inl ⟨rfl, wd_513⟩, fun z => absurd z (by decide), fun _ => wd_514, fun _ => ⟨wd_515, Or.inl ⟨rfl, by decide⟩, rfl⟩, fun z => absurd z (by decide), fun z => absurd z (by decide)⟩
set_option maxRecDepth 20000 in
theorem pd_37 : (parseMethodDescriptor yX2_changes.desc).map (fun d => d.parameters.length) = some 2 := by decide +kernel
theorem fl_11_293 : mm_PL 11 293 (1, 25, 2, 0, 2) := fun _ => ⟨by decide, mmX2_changes, yX2_changes, cX2_changes, (some .int), mp_X2_changes, mi_X2_changes, pd_37, Or.inl ⟨rfl, wd_531⟩, fun z => absurd z (by decide), fun _ => wd_532, fun _ => ⟨wd_533, Or.inl ⟨rfl, by decide⟩, rfl⟩, fun z => absurd z (by decide), fun z => absurd z (by decide)⟩
set_option maxRecDepth 20000 in
theorem fl_11_337 : mm_PL 11 337 (1, 28, 3, 0, 3) := fun _ => ⟨by decide, mmX3_setCost, yX3_setCost, cX3_setCost, none, mp_X3_setCost, mi_X3_setCost, pd_9, Or.inl ⟨rfl, wd_540⟩, fun z => absurd z (by decide), fun _ => wd_541, fun _ => ⟨wd_542, Or.inl ⟨rfl, by decide⟩, rfl⟩, fun z => absurd z (by decide), fun z => absurd z (by decide)⟩
set_option maxRecDepth 20000 in
theorem fl_11_340 : mm_PL 11 340 (1, 31, 1, 0, 3) := fun _ => ⟨by decide, mmX3_find, yX3_find, cX3_find, none, mp_X3_find, mi_X3_find, pd_13, Or.inl ⟨rfl, wd_545⟩, fun z => absurd z (by decide), fun _ => wd_546, fun _ => ⟨wd_547, Or.inl ⟨rfl, by decide⟩, rfl⟩, fun z => absurd z (by decide), fun z => absurd z (by decide)⟩
set_option maxRecDepth 20000 in
theorem fl_11_334 : mm_PL 11 334 (1, 29, 0, 0, 3) := fun _ => ⟨by decide, mmX3_total, yX3_total, cX3_total, (some .int), mp_X3_total, mi_X3_total, pd_10, Or.inl ⟨rfl, wd_573⟩, fun z => absurd z (by decide), fun _ => wd_574, fun _ => ⟨wd_575, Or.inl ⟨rfl, by decide⟩, rfl⟩, fun z => absurd z (by decide), fun z => absurd z (by decide)⟩
set_option maxRecDepth 20000 in
theorem fl_11_367 : mm_PL 11 367 (1, 75, 0, 0, 6) := fun _ => ⟨by decide, mmX6_forgetSeen, yX6_forgetSeen, cX6_forgetSeen, none, mp_X6_forgetSeen, mi_X6_forgetSeen, pd_4, Or.inl ⟨rfl, wd_581⟩, fun z => absurd z (by decide), fun _ => wd_582, fun _ => ⟨wd_583, Or.inl ⟨rfl, by decide⟩, rfl⟩, fun z => absurd z (by decide), fun z => absurd z (by decide)⟩
set_option maxRecDepth 20000 in
theorem pd_38 : (parseMethodDescriptor yX6_takeOver.desc).map (fun d => d.parameters.length) = some 1 := by decide +kernel
theorem fl_11_394 : mm_PL 11 394 (1, 66, 1, 0, 6) := fun _ => ⟨by decide, mmX6_takeOver, yX6_takeOver, cX6_takeOver, none, mp_X6_takeOver, mi_X6_takeOver, pd_38, Or.inl ⟨rfl, wd_589⟩, fun z => absurd z (by decide), fun _ => wd_590, fun _ => ⟨wd_591, Or.inl ⟨rfl, by decide⟩, rfl⟩, fun z => absurd z (by decide), fun z => absurd z (by decide)⟩
set_option maxRecDepth 20000 in
theorem fl_11_106 : mm_PL 11 106 (0, 175, 1, 0, 11) := fun _ => ⟨by decide, mmX11_mustFit, yX11_mustFit, cX11_mustFit, none, mp_X11_mustFit, mi_X11_mustFit, pd_26, Or.inl ⟨rfl, wd_616⟩, fun _ => wd_617, fun z => absurd rfl z, fun z => absurd z (by decide), fun z => absurd z (by decide), fun z => absurd z (by decide)⟩
set_option maxRecDepth 20000 in
theorem fl_11_110 : mm_PL 11 110 (1, 13, 0, 0, 1) := fun _ => ⟨by decide, mmX1_forgetAll, yX1_forgetAll, cX1_forgetAll, none, mp_X1_forgetAll, mi_X1_forgetAll, pd_4, Or.inl ⟨rfl, wd_681⟩, fun z => absurd z (by decide), fun _ => wd_682, fun _ => ⟨wd_683, Or.inl ⟨rfl, by decide⟩, rfl⟩, fun z => absurd z (by decide), fun z => absurd z (by decide)⟩
set_option maxRecDepth 20000 in
theorem fl_11_113 : mm_PL 11 113 (1, 38, 1, 0, 4) := fun _ => ⟨by decide, mmX4_begin, yX4_begin, cX4_begin, none, mp_X4_begin, mi_X4_begin, pd_13, Or.inl ⟨rfl, wd_693⟩, fun z => absurd z (by decide), fun _ => wd_694, fun _ => ⟨wd_695, Or.inl ⟨rfl, by decide⟩, rfl⟩, fun z => absurd z (by decide), fun z => absurd z (by decide)⟩
set_option maxRecDepth 20000 in
theorem fl_11_116 : mm_PL 11 116 (1, 39, 0, 0, 4) := fun _ => ⟨by decide, mmX4_goesOn, yX4_goesOn, cX4_goesOn, (some .boolean), mp_X4_goesOn, mi_X4_goesOn, pd_7, Or.inl ⟨rfl, wd_726⟩, fun z => absurd z (by decide), fun _ => wd_727, fun _ => ⟨wd_728, Or.inl ⟨rfl, by decide⟩, rfl⟩, fun z => absurd z (by decide), fun z => absurd z (by decide)⟩
set_option maxRecDepth 20000 in
theorem pd_39 : (parseMethodDescriptor yX4_readLine.desc).map (fun d => d.parameters.length) = some 1 := by decide +kernel
theorem fl_11_120 : mm_PL 11 120 (1, 41, 1, 0, 4) := fun _ => ⟨by decide, mmX4_readLine, yX4_readLine, cX4_readLine, none, mp_X4_readLine, mi_X4_readLine, pd_39, Or.inl ⟨rfl, wd_734⟩, fun z => absurd z (by decide), fun _ => wd_735, fun _ => ⟨wd_736, Or.inl ⟨rfl, by decide⟩, rfl⟩, fun z => absurd z (by decide), fun z => absurd z (by decide)⟩
set_option maxRecDepth 20000 in
theorem fl_11_124 : mm_PL 11 124 (1, 36, 0, 0, 4) := fun _ => ⟨by decide, mmX4_place, yX4_place, cX4_place, (some .int), mp_X4_place, mi_X4_place, pd_10, Or.inl ⟨rfl, wd_926⟩, fun z => absurd z (by decide), fun _ => wd_927, fun _ => ⟨wd_928, Or.inl ⟨rfl, by decide⟩, rfl⟩, fun z => absurd z (by decide), fun z => absurd z (by decide)⟩
set_option maxRecDepth 20000 in
theorem fl_11_128 : mm_PL 11 128 (1, 37, 0, 0, 4) := fun _ => ⟨by decide, mmX4_faultKind, yX4_faultKind, cX4_faultKind, (some .int), mp_X4_faultKind, mi_X4_faultKind, pd_10, Or.inl ⟨rfl, wd_930⟩, fun z => absurd z (by decide), fun _ => wd_931, fun _ => ⟨wd_932, Or.inl ⟨rfl, by decide⟩, rfl⟩, fun z => absurd z (by decide), fun z => absurd z (by decide)⟩
set_option maxRecDepth 20000 in
theorem pd_40 : (parseMethodDescriptor yX10_settle.desc).map (fun d => d.parameters.length) = some 1 := by decide +kernel
theorem fl_11_139 : mm_PL 11 139 (1, 118, 1, 0, 10) := fun _ => ⟨by decide, mmX10_settle, yX10_settle, cX10_settle, none, mp_X10_settle, mi_X10_settle, pd_40, Or.inl ⟨rfl, wd_934⟩, fun z => absurd z (by decide), fun _ => wd_935, fun _ => ⟨wd_936, Or.inl ⟨rfl, by decide⟩, rfl⟩, fun z => absurd z (by decide), fun z => absurd z (by decide)⟩
set_option maxRecDepth 20000 in
theorem fl_11_148 : mm_PL 11 148 (1, 67, 1, 0, 6) := fun _ => ⟨by decide, mmX6_beginWith, yX6_beginWith, cX6_beginWith, none, mp_X6_beginWith, mi_X6_beginWith, pd_29, Or.inl ⟨rfl, wd_968⟩, fun z => absurd z (by decide), fun _ => wd_969, fun _ => ⟨wd_970, Or.inl ⟨rfl, by decide⟩, rfl⟩, fun z => absurd z (by decide), fun z => absurd z (by decide)⟩
set_option maxRecDepth 20000 in
theorem fl_11_152 : mm_PL 11 152 (1, 106, 0, 0, 10) := fun _ => ⟨by decide, mmX10_many, yX10_many, cX10_many, (some .int), mp_X10_many, mi_X10_many, pd_10, Or.inl ⟨rfl, wd_980⟩, fun z => absurd z (by decide), fun _ => wd_800, fun _ => ⟨wd_801, Or.inl ⟨rfl, by decide⟩, rfl⟩, fun z => absurd z (by decide), fun z => absurd z (by decide)⟩
set_option maxRecDepth 20000 in
theorem fl_11_164 : mm_PL 11 164 (1, 15, 1, 0, 1) := fun _ => ⟨by decide, mmX1_heatOf, yX1_heatOf, cX1_heatOf, (some .int), mp_X1_heatOf, mi_X1_heatOf, pd_3, Or.inl ⟨rfl, wd_981⟩, fun z => absurd z (by decide), fun _ => wd_426, fun _ => ⟨wd_427, Or.inl ⟨rfl, by decide⟩, rfl⟩, fun z => absurd z (by decide), fun z => absurd z (by decide)⟩
set_option maxRecDepth 20000 in
theorem pd_41 : (parseMethodDescriptor yX1_howManyFull.desc).map (fun d => d.parameters.length) = some 1 := by decide +kernel
theorem fl_11_167 : mm_PL 11 167 (1, 20, 1, 0, 1) := fun _ => ⟨by decide, mmX1_howManyFull, yX1_howManyFull, cX1_howManyFull, (some .int), mp_X1_howManyFull, mi_X1_howManyFull, pd_41, Or.inl ⟨rfl, wd_982⟩, fun z => absurd z (by decide), fun _ => wd_983, fun _ => ⟨wd_984, Or.inl ⟨rfl, by decide⟩, rfl⟩, fun z => absurd z (by decide), fun z => absurd z (by decide)⟩
set_option maxRecDepth 20000 in
theorem fl_11_171 : mm_PL 11 171 (1, 128, 0, 0, 11) := fun _ => ⟨by decide, mmX11_treaties, yX11_treaties, cX11_treaties, (some .int), mp_X11_treaties, mi_X11_treaties, pd_10, Or.inl ⟨rfl, wd_990⟩, fun z => absurd z (by decide), fun _ => wd_992, fun _ => ⟨ws_28, Or.inl ⟨rfl, by decide⟩, rfl⟩, fun z => absurd z (by decide), fun z => absurd z (by decide)⟩
set_option maxRecDepth 20000 in
theorem fl_11_174 : mm_PL 11 174 (1, 21, 1, 0, 1) := fun _ => ⟨by decide, mmX1_lettersOfAll, yX1_lettersOfAll, cX1_lettersOfAll, (some .int), mp_X1_lettersOfAll, mi_X1_lettersOfAll, pd_41, Or.inl ⟨rfl, wd_994⟩, fun z => absurd z (by decide), fun _ => wd_995, fun _ => ⟨wd_996, Or.inl ⟨rfl, by decide⟩, rfl⟩, fun z => absurd z (by decide), fun z => absurd z (by decide)⟩
set_option maxRecDepth 20000 in
theorem fl_11_180 : mm_PL 11 180 (1, 73, 0, 0, 6) := fun _ => ⟨by decide, mmX6_seenSize, yX6_seenSize, cX6_seenSize, (some .int), mp_X6_seenSize, mi_X6_seenSize, pd_10, Or.inl ⟨rfl, wd_1002⟩, fun z => absurd z (by decide), fun _ => wd_1003, fun _ => ⟨wd_1004, Or.inl ⟨rfl, by decide⟩, rfl⟩, fun z => absurd z (by decide), fun z => absurd z (by decide)⟩
set_option maxRecDepth 20000 in
theorem fl_11_183 : mm_PL 11 183 (0, 174, 1, 0, 11) := fun _ => ⟨by decide, mmX11_mustBe, yX11_mustBe, cX11_mustBe, none, mp_X11_mustBe, mi_X11_mustBe, pd_26, Or.inl ⟨rfl, wd_1006⟩, fun _ => wd_1007, fun z => absurd rfl z, fun z => absurd z (by decide), fun z => absurd z (by decide), fun z => absurd z (by decide)⟩
set_option maxRecDepth 20000 in
theorem fl_11_186 : mm_PL 11 186 (1, 69, 1, 0, 6) := fun _ => ⟨by decide, mmX6_refusals, yX6_refusals, cX6_refusals, (some .int), mp_X6_refusals, mi_X6_refusals, pd_3, Or.inl ⟨rfl, wd_1024⟩, fun z => absurd z (by decide), fun _ => wd_1025, fun _ => ⟨wd_1026, Or.inl ⟨rfl, by decide⟩, rfl⟩, fun z => absurd z (by decide), fun z => absurd z (by decide)⟩
set_option maxRecDepth 20000 in
theorem fl_11_199 : mm_PL 11 199 (1, 171, 1, 0, 11) := fun _ => ⟨by decide, mmX11_isWord, yX11_isWord, cX11_isWord, (some .boolean), mp_X11_isWord, mi_X11_isWord, pd_19, Or.inl ⟨rfl, wd_1035⟩, fun z => absurd z (by decide), fun _ => wd_1037, fun _ => ⟨ws_29, Or.inl ⟨rfl, by decide⟩, rfl⟩, fun z => absurd z (by decide), fun z => absurd z (by decide)⟩
set_option maxRecDepth 20000 in
theorem fl_11_203 : mm_PL 11 203 (1, 107, 1, 0, 10) := fun _ => ⟨by decide, mmX10_of, yX10_of, cX10_of, (some (.object "GrownWords$Letters")), mp_X10_of, mi_X10_of, pd_12, Or.inl ⟨rfl, wd_1039⟩, fun z => absurd z (by decide), fun _ => wd_476, fun _ => ⟨wd_477, Or.inl ⟨rfl, by decide⟩, rfl⟩, fun z => absurd z (by decide), fun z => absurd z (by decide)⟩
set_option maxRecDepth 20000 in
theorem fl_11_207 : mm_PL 11 207 (1, 3, 0, 0, 0) := fun _ => ⟨by decide, mmX0_length, yX0_length, cX0_length, (some .int), mp_X0_length, mi_X0_length, pd_10, Or.inl ⟨rfl, wd_1040⟩, fun z => absurd z (by decide), fun _ => wd_480, fun _ => ⟨wd_481, Or.inl ⟨rfl, by decide⟩, rfl⟩, fun z => absurd z (by decide), fun z => absurd z (by decide)⟩
set_option maxRecDepth 20000 in
theorem fl_11_210 : mm_PL 11 210 (1, 110, 1, 0, 10) := fun _ => ⟨by decide, mmX10_firmness, yX10_firmness, cX10_firmness, (some .int), mp_X10_firmness, mi_X10_firmness, pd_3, Or.inl ⟨rfl, wd_1041⟩, fun z => absurd z (by decide), fun _ => wd_445, fun _ => ⟨wd_446, Or.inl ⟨rfl, by decide⟩, rfl⟩, fun z => absurd z (by decide), fun z => absurd z (by decide)⟩
set_option maxRecDepth 20000 in
theorem fl_11_213 : mm_PL 11 213 (1, 116, 1, 0, 10) := fun _ => ⟨by decide, mmX10_within, yX10_within, cX10_within, (some .int), mp_X10_within, mi_X10_within, pd_3, Or.inl ⟨rfl, wd_1042⟩, fun z => absurd z (by decide), fun _ => wd_1043, fun _ => ⟨wd_1044, Or.inl ⟨rfl, by decide⟩, rfl⟩, fun z => absurd z (by decide), fun z => absurd z (by decide)⟩
set_option maxRecDepth 20000 in
theorem fl_11_216 : mm_PL 11 216 (1, 117, 1, 0, 10) := fun _ => ⟨by decide, mmX10_anagrams, yX10_anagrams, cX10_anagrams, (some .int), mp_X10_anagrams, mi_X10_anagrams, pd_3, Or.inl ⟨rfl, wd_1050⟩, fun z => absurd z (by decide), fun _ => wd_1051, fun _ => ⟨wd_1052, Or.inl ⟨rfl, by decide⟩, rfl⟩, fun z => absurd z (by decide), fun z => absurd z (by decide)⟩
set_option maxRecDepth 20000 in
theorem fl_11_219 : mm_PL 11 219 (1, 130, 1, 0, 11) := fun _ => ⟨by decide, mmX11_trunksWith, yX11_trunksWith, cX11_trunksWith, (some .int), mp_X11_trunksWith, mi_X11_trunksWith, pd_3, Or.inl ⟨rfl, wd_1062⟩, fun z => absurd z (by decide), fun _ => wd_1064, fun _ => ⟨ws_31, Or.inl ⟨rfl, by decide⟩, rfl⟩, fun z => absurd z (by decide), fun z => absurd z (by decide)⟩
set_option maxRecDepth 20000 in
theorem fl_11_228 : mm_PL 11 228 (1, 4, 1, 0, 0) := fun _ => ⟨by decide, mmX0_signAt, yX0_signAt, cX0_signAt, (some .int), mp_X0_signAt, mi_X0_signAt, pd_3, Or.inl ⟨rfl, wd_1073⟩, fun z => absurd z (by decide), fun _ => wd_522, fun _ => ⟨wd_523, Or.inl ⟨rfl, by decide⟩, rfl⟩, fun z => absurd z (by decide), fun z => absurd z (by decide)⟩
set_option maxRecDepth 20000 in
theorem fl_11_231 : mm_PL 11 231 (1, 172, 1, 0, 11) := fun _ => ⟨by decide, mmX11_isTrunk, yX11_isTrunk, cX11_isTrunk, (some .boolean), mp_X11_isTrunk, mi_X11_isTrunk, pd_19, Or.inl ⟨rfl, wd_1081⟩, fun z => absurd z (by decide), fun _ => wd_1083, fun _ => ⟨ws_32, Or.inl ⟨rfl, by decide⟩, rfl⟩, fun z => absurd z (by decide), fun z => absurd z (by decide)⟩
set_option maxRecDepth 20000 in
theorem fl_11_240 : mm_PL 11 240 (1, 16, 1, 0, 1) := fun _ => ⟨by decide, mmX1_fullOf, yX1_fullOf, cX1_fullOf, (some .int), mp_X1_fullOf, mi_X1_fullOf, pd_11, Or.inl ⟨rfl, wd_1085⟩, fun z => absurd z (by decide), fun _ => wd_472, fun _ => ⟨wd_473, Or.inl ⟨rfl, by decide⟩, rfl⟩, fun z => absurd z (by decide), fun z => absurd z (by decide)⟩
set_option maxRecDepth 20000 in
theorem fl_11_244 : mm_PL 11 244 (1, 18, 1, 0, 1) := fun _ => ⟨by decide, mmX1_blendSize, yX1_blendSize, cX1_blendSize, (some .int), mp_X1_blendSize, mi_X1_blendSize, pd_11, Or.inl ⟨rfl, wd_1086⟩, fun z => absurd z (by decide), fun _ => wd_999, fun _ => ⟨wd_1000, Or.inl ⟨rfl, by decide⟩, rfl⟩, fun z => absurd z (by decide), fun z => absurd z (by decide)⟩
set_option maxRecDepth 20000 in
theorem fl_11_250 : mm_PL 11 250 (1, 30, 1, 0, 3) := fun _ => ⟨by decide, mmX3_partnerOf, yX3_partnerOf, cX3_partnerOf, (some .int), mp_X3_partnerOf, mi_X3_partnerOf, pd_3, Or.inl ⟨rfl, wd_1087⟩, fun z => absurd z (by decide), fun _ => wd_1088, fun _ => ⟨wd_1089, Or.inl ⟨rfl, by decide⟩, rfl⟩, fun z => absurd z (by decide), fun z => absurd z (by decide)⟩
set_option maxRecDepth 20000 in
theorem fl_11_259 : mm_PL 11 259 (1, 17, 1, 0, 1) := fun _ => ⟨by decide, mmX1_isFull, yX1_isFull, cX1_isFull, (some .boolean), mp_X1_isFull, mi_X1_isFull, pd_14, Or.inl ⟨rfl, wd_1105⟩, fun z => absurd z (by decide), fun _ => wd_987, fun _ => ⟨wd_988, Or.inl ⟨rfl, by decide⟩, rfl⟩, fun z => absurd z (by decide), fun z => absurd z (by decide)⟩
set_option maxRecDepth 20000 in
theorem fl_11_269 : mm_PL 11 269 (1, 96, 0, 0, 8) := fun _ => ⟨by decide, mmX8_turnRound, yX8_turnRound, cX8_turnRound, none, mp_X8_turnRound, mi_X8_turnRound, pd_4, Or.inl ⟨rfl, wd_1114⟩, fun z => absurd z (by decide), fun _ => wd_1115, fun _ => ⟨wd_1116, Or.inl ⟨rfl, by decide⟩, rfl⟩, fun z => absurd z (by decide), fun z => absurd z (by decide)⟩
set_option maxRecDepth 20000 in
theorem fl_11_272 : mm_PL 11 272 (1, 97, 2, 0, 8) := fun _ => ⟨by decide, mmX8_packIn, yX8_packIn, cX8_packIn, none, mp_X8_packIn, mi_X8_packIn, pd_16, Or.inl ⟨rfl, wd_1125⟩, fun z => absurd z (by decide), fun _ => wd_1126, fun _ => ⟨wd_1127, Or.inl ⟨rfl, by decide⟩, rfl⟩, fun z => absurd z (by decide), fun z => absurd z (by decide)⟩
set_option maxRecDepth 20000 in
theorem fl_11_279 : mm_PL 11 279 (0, 173, 1, 0, 11) := fun _ => ⟨by decide, mmX11_isAhead, yX11_isAhead, cX11_isAhead, (some .boolean), mp_X11_isAhead, mi_X11_isAhead, pd_19, Or.inl ⟨rfl, wd_1136⟩, fun _ => wd_1137, fun z => absurd rfl z, fun z => absurd z (by decide), fun z => absurd z (by decide), fun z => absurd z (by decide)⟩
set_option maxRecDepth 20000 in
theorem fl_11_282 : mm_PL 11 282 (1, 147, 3, 0, 11) := fun _ => ⟨by decide, mmX11_growProbe, yX11_growProbe, cX11_growProbe, none, mp_X11_growProbe, mi_X11_growProbe, pd_9, Or.inl ⟨rfl, wd_1139⟩, fun z => absurd z (by decide), fun _ => wd_1141, fun _ => ⟨ws_33, Or.inl ⟨rfl, by decide⟩, rfl⟩, fun z => absurd z (by decide), fun z => absurd z (by decide)⟩
set_option maxRecDepth 20000 in
theorem fl_11_297 : mm_PL 11 297 (1, 95, 1, 0, 8) := fun _ => ⟨by decide, mmX8_becomeAs, yX8_becomeAs, cX8_becomeAs, none, mp_X8_becomeAs, mi_X8_becomeAs, pd_32, Or.inl ⟨rfl, wd_1143⟩, fun z => absurd z (by decide), fun _ => wd_598, fun _ => ⟨wd_599, Or.inl ⟨rfl, by decide⟩, rfl⟩, fun z => absurd z (by decide), fun z => absurd z (by decide)⟩
set_option maxRecDepth 20000 in
theorem pd_42 : (parseMethodDescriptor yX11_growBy.desc).map (fun d => d.parameters.length) = some 2 := by decide +kernel
theorem fl_11_301 : mm_PL 11 301 (1, 146, 2, 0, 11) := fun _ => ⟨by decide, mmX11_growBy, yX11_growBy, cX11_growBy, none, mp_X11_growBy, mi_X11_growBy, pd_42, Or.inl ⟨rfl, wd_1144⟩, fun z => absurd z (by decide), fun _ => wd_1146, fun _ => ⟨ws_34, Or.inl ⟨rfl, by decide⟩, rfl⟩, fun z => absurd z (by decide), fun z => absurd z (by decide)⟩
set_option maxRecDepth 20000 in
theorem fl_11_312 : mm_PL 11 312 (1, 23, 3, 0, 1) := fun _ => ⟨by decide, mmX1_grow, yX1_grow, cX1_grow, none, mp_X1_grow, mi_X1_grow, pd_6, Or.inl ⟨rfl, wd_1148⟩, fun z => absurd z (by decide), fun _ => wd_432, fun _ => ⟨wd_433, Or.inl ⟨rfl, by decide⟩, rfl⟩, fun z => absurd z (by decide), fun z => absurd z (by decide)⟩
set_option maxRecDepth 20000 in
theorem fl_11_290 : mm_PL 11 290 (1, 140, 0, 0, 11) := fun _ => ⟨by decide, mmX11_nearestToBlend, yX11_nearestToBlend, cX11_nearestToBlend, (some .int), mp_X11_nearestToBlend, mi_X11_nearestToBlend, pd_10, Or.inl ⟨rfl, wd_1149⟩, fun z => absurd z (by decide), fun _ => wd_1151, fun _ => ⟨ws_35, Or.inl ⟨rfl, by decide⟩, rfl⟩, fun z => absurd z (by decide), fun z => absurd z (by decide)⟩
set_option maxRecDepth 20000 in
theorem fl_11_305 : mm_PL 11 305 (1, 7, 1, 0, 0) := fun _ => ⟨by decide, mmX0_holds, yX0_holds, cX0_holds, (some .boolean), mp_X0_holds, mi_X0_holds, pd_21, Or.inl ⟨rfl, wd_1181⟩, fun z => absurd z (by decide), fun _ => wd_1047, fun _ => ⟨wd_1048, Or.inl ⟨rfl, by decide⟩, rfl⟩, fun z => absurd z (by decide), fun z => absurd z (by decide)⟩
set_option maxRecDepth 20000 in
theorem fl_11_309 : mm_PL 11 309 (1, 6, 1, 0, 0) := fun _ => ⟨by decide, mmX0_isSame, yX0_isSame, cX0_isSame, (some .boolean), mp_X0_isSame, mi_X0_isSame, pd_21, Or.inl ⟨rfl, wd_1189⟩, fun z => absurd z (by decide), fun _ => wd_826, fun _ => ⟨wd_827, Or.inl ⟨rfl, by decide⟩, rfl⟩, fun z => absurd z (by decide), fun z => absurd z (by decide)⟩
set_option maxRecDepth 20000 in
theorem fl_11_316 : mm_PL 11 316 (1, 111, 2, 0, 10) := fun _ => ⟨by decide, mmX10_overlapOf, yX10_overlapOf, cX10_overlapOf, (some .int), mp_X10_overlapOf, mi_X10_overlapOf, pd_8, Or.inl ⟨rfl, wd_1197⟩, fun z => absurd z (by decide), fun _ => wd_450, fun _ => ⟨wd_451, Or.inl ⟨rfl, by decide⟩, rfl⟩, fun z => absurd z (by decide), fun z => absurd z (by decide)⟩
set_option maxRecDepth 20000 in
theorem fl_11_319 : mm_PL 11 319 (1, 26, 2, 0, 2) := fun _ => ⟨by decide, mmX2_common, yX2_common, cX2_common, (some .int), mp_X2_common, mi_X2_common, pd_37, Or.inl ⟨rfl, wd_1198⟩, fun z => absurd z (by decide), fun _ => wd_1199, fun _ => ⟨wd_1200, Or.inl ⟨rfl, by decide⟩, rfl⟩, fun z => absurd z (by decide), fun z => absurd z (by decide)⟩
set_option maxRecDepth 20000 in
theorem fl_11_322 : mm_PL 11 322 (1, 112, 0, 0, 10) := fun _ => ⟨by decide, mmX10_rowLetters, yX10_rowLetters, cX10_rowLetters, (some .int), mp_X10_rowLetters, mi_X10_rowLetters, pd_10, Or.inl ⟨rfl, wd_1210⟩, fun z => absurd z (by decide), fun _ => wd_1211, fun _ => ⟨wd_1212, Or.inl ⟨rfl, by decide⟩, rfl⟩, fun z => absurd z (by decide), fun z => absurd z (by decide)⟩
set_option maxRecDepth 20000 in
theorem fl_11_325 : mm_PL 11 325 (1, 113, 1, 0, 10) := fun _ => ⟨by decide, mmX10_inRow, yX10_inRow, cX10_inRow, (some .int), mp_X10_inRow, mi_X10_inRow, pd_3, Or.inl ⟨rfl, wd_1214⟩, fun z => absurd z (by decide), fun _ => wd_963, fun _ => ⟨wd_964, Or.inl ⟨rfl, by decide⟩, rfl⟩, fun z => absurd z (by decide), fun z => absurd z (by decide)⟩
set_option maxRecDepth 20000 in
theorem fl_11_328 : mm_PL 11 328 (1, 114, 0, 0, 10) := fun _ => ⟨by decide, mmX10_chainSize, yX10_chainSize, cX10_chainSize, (some .int), mp_X10_chainSize, mi_X10_chainSize, pd_10, Or.inl ⟨rfl, wd_1222⟩, fun z => absurd z (by decide), fun _ => wd_1223, fun _ => ⟨wd_1224, Or.inl ⟨rfl, by decide⟩, rfl⟩, fun z => absurd z (by decide), fun z => absurd z (by decide)⟩
set_option maxRecDepth 20000 in
theorem fl_11_331 : mm_PL 11 331 (1, 115, 1, 0, 10) := fun _ => ⟨by decide, mmX10_inChain, yX10_inChain, cX10_inChain, (some .int), mp_X10_inChain, mi_X10_inChain, pd_3, Or.inl ⟨rfl, wd_1226⟩, fun z => absurd z (by decide), fun _ => wd_1227, fun _ => ⟨wd_1228, Or.inl ⟨rfl, by decide⟩, rfl⟩, fun z => absurd z (by decide), fun z => absurd z (by decide)⟩
set_option maxRecDepth 20000 in
theorem fl_11_343 : mm_PL 11 343 (1, 74, 3, 0, 6) := fun _ => ⟨by decide, mmX6_addSeen, yX6_addSeen, cX6_addSeen, none, mp_X6_addSeen, mi_X6_addSeen, pd_9, Or.inl ⟨rfl, wd_1244⟩, fun z => absurd z (by decide), fun _ => wd_1245, fun _ => ⟨wd_1246, Or.inl ⟨rfl, by decide⟩, rfl⟩, fun z => absurd z (by decide), fun z => absurd z (by decide)⟩
set_option maxRecDepth 20000 in
theorem fl_11_346 : mm_PL 11 346 (1, 159, 0, 0, 11) := fun _ => ⟨by decide, mmX11_fittingTrunks, yX11_fittingTrunks, cX11_fittingTrunks, (some .int), mp_X11_fittingTrunks, mi_X11_fittingTrunks, pd_10, Or.inl ⟨rfl, wd_1255⟩, fun z => absurd z (by decide), fun _ => wd_1257, fun _ => ⟨ws_36, Or.inl ⟨rfl, by decide⟩, rfl⟩, fun z => absurd z (by decide), fun z => absurd z (by decide)⟩
set_option maxRecDepth 20000 in
theorem pd_43 : (parseMethodDescriptor yX11_fitsSeen.desc).map (fun d => d.parameters.length) = some 2 := by decide +kernel
theorem fl_11_370 : mm_PL 11 370 (1, 161, 2, 0, 11) := fun _ => ⟨by decide, mmX11_fitsSeen, yX11_fitsSeen, cX11_fitsSeen, (some .boolean), mp_X11_fitsSeen, mi_X11_fitsSeen, pd_43, Or.inl ⟨rfl, wd_1259⟩, fun z => absurd z (by decide), fun _ => wd_1261, fun _ => ⟨ws_37, Or.inl ⟨rfl, by decide⟩, rfl⟩, fun z => absurd z (by decide), fun z => absurd z (by decide)⟩
set_option maxRecDepth 20000 in
theorem fl_11_374 : mm_PL 11 374 (1, 76, 1, 0, 6) := fun _ => ⟨by decide, mmX6_lastSeenDay, yX6_lastSeenDay, cX6_lastSeenDay, (some .int), mp_X6_lastSeenDay, mi_X6_lastSeenDay, pd_3, Or.inl ⟨rfl, wd_1263⟩, fun z => absurd z (by decide), fun _ => wd_1264, fun _ => ⟨wd_1265, Or.inl ⟨rfl, by decide⟩, rfl⟩, fun z => absurd z (by decide), fun z => absurd z (by decide)⟩
set_option maxRecDepth 20000 in
theorem pd_44 : (parseMethodDescriptor yX6_agrees.desc).map (fun d => d.parameters.length) = some 3 := by decide +kernel
theorem fl_11_377 : mm_PL 11 377 (1, 77, 3, 0, 6) := fun _ => ⟨by decide, mmX6_agrees, yX6_agrees, cX6_agrees, (some .boolean), mp_X6_agrees, mi_X6_agrees, pd_44, Or.inl ⟨rfl, wd_1268⟩, fun z => absurd z (by decide), fun _ => wd_1269, fun _ => ⟨wd_1270, Or.inl ⟨rfl, by decide⟩, rfl⟩, fun z => absurd z (by decide), fun z => absurd z (by decide)⟩
set_option maxRecDepth 20000 in
theorem fl_11_349 : mm_PL 11 349 (1, 158, 0, 0, 11) := fun _ => ⟨by decide, mmX11_allTrunks, yX11_allTrunks, cX11_allTrunks, (some .int), mp_X11_allTrunks, mi_X11_allTrunks, pd_10, Or.inl ⟨rfl, wd_1272⟩, fun z => absurd z (by decide), fun _ => wd_1274, fun _ => ⟨ws_38, Or.inl ⟨rfl, by decide⟩, rfl⟩, fun z => absurd z (by decide), fun z => absurd z (by decide)⟩
set_option maxRecDepth 20000 in
theorem fl_11_352 : mm_PL 11 352 (1, 160, 2, 0, 11) := fun _ => ⟨by decide, mmX11_looseStraps, yX11_looseStraps, cX11_looseStraps, (some .int), mp_X11_looseStraps, mi_X11_looseStraps, pd_8, Or.inl ⟨rfl, wd_1276⟩, fun z => absurd z (by decide), fun _ => wd_1278, fun _ => ⟨ws_39, Or.inl ⟨rfl, by decide⟩, rfl⟩, fun z => absurd z (by decide), fun z => absurd z (by decide)⟩
set_option maxRecDepth 20000 in
theorem fl_11_355 : mm_PL 11 355 (0, 179, 1, 0, 11) := fun _ => ⟨by decide, mmX11_lowestBit, yX11_lowestBit, cX11_lowestBit, (some .int), mp_X11_lowestBit, mi_X11_lowestBit, pd_3, Or.inl ⟨rfl, wd_1280⟩, fun _ => wd_554, fun z => absurd rfl z, fun z => absurd z (by decide), fun z => absurd z (by decide), fun z => absurd z (by decide)⟩
set_option maxRecDepth 20000 in
theorem fl_11_358 : mm_PL 11 358 (0, 293, 1, 0, 14) := fun _ => ⟨by decide, mmJ6_bitCount, yJ6_bitCount_0f7a4, cJ6_bitCount_0f7a4, (some .int), mp_J6_bitCount, mi_J6_bitCount, pd_3, Or.inl ⟨rfl, wd_1281⟩, fun _ => wd_557, fun z => absurd rfl z, fun z => absurd z (by decide), fun z => absurd z (by decide), fun z => absurd z (by decide)⟩
set_option maxRecDepth 20000 in
theorem pd_45 : (parseMethodDescriptor yX11_unlikeNumbers.desc).map (fun d => d.parameters.length) = some 3 := by decide +kernel
theorem fl_11_363 : mm_PL 11 363 (1, 162, 3, 0, 11) := fun _ => ⟨by decide, mmX11_unlikeNumbers, yX11_unlikeNumbers, cX11_unlikeNumbers, (some .int), mp_X11_unlikeNumbers, mi_X11_unlikeNumbers, pd_45, Or.inl ⟨rfl, wd_1289⟩, fun z => absurd z (by decide), fun _ => wd_1291, fun _ => ⟨ws_40, Or.inl ⟨rfl, by decide⟩, rfl⟩, fun z => absurd z (by decide), fun z => absurd z (by decide)⟩
set_option maxRecDepth 20000 in
theorem fl_11_381 : mm_PL 11 381 (1, 165, 2, 0, 11) := fun _ => ⟨by decide, mmX11_ownGain, yX11_ownGain, cX11_ownGain, (some .int), mp_X11_ownGain, mi_X11_ownGain, pd_8, Or.inl ⟨rfl, wd_1307⟩, fun z => absurd z (by decide), fun _ => wd_1309, fun _ => ⟨ws_41, Or.inl ⟨rfl, by decide⟩, rfl⟩, fun z => absurd z (by decide), fun z => absurd z (by decide)⟩
set_option maxRecDepth 20000 in
theorem fl_11_384 : mm_PL 11 384 (1, 101, 1, 0, 9) := fun _ => ⟨by decide, mmX9_copyAll, yX9_copyAll, cX9_copyAll, none, mp_X9_copyAll, mi_X9_copyAll, pd_29, Or.inl ⟨rfl, wd_1318⟩, fun z => absurd z (by decide), fun _ => wd_594, fun _ => ⟨wd_595, Or.inl ⟨rfl, by decide⟩, rfl⟩, fun z => absurd z (by decide), fun z => absurd z (by decide)⟩
set_option maxRecDepth 20000 in
theorem fl_11_387 : mm_PL 11 387 (1, 167, 0, 0, 11) := fun _ => ⟨by decide, mmX11_drawAhead, yX11_drawAhead, cX11_drawAhead, none, mp_X11_drawAhead, mi_X11_drawAhead, pd_4, Or.inl ⟨rfl, wd_1319⟩, fun z => absurd z (by decide), fun _ => wd_1321, fun _ => ⟨ws_42, Or.inl ⟨rfl, by decide⟩, rfl⟩, fun z => absurd z (by decide), fun z => absurd z (by decide)⟩
set_option maxRecDepth 20000 in
theorem fl_11_390 : mm_PL 11 390 (1, 168, 1, 0, 11) := fun _ => ⟨by decide, mmX11_drawOf, yX11_drawOf, cX11_drawOf, (some .int), mp_X11_drawOf, mi_X11_drawOf, pd_3, Or.inl ⟨rfl, wd_1323⟩, fun z => absurd z (by decide), fun _ => wd_1325, fun _ => ⟨ws_43, Or.inl ⟨rfl, by decide⟩, rfl⟩, fun z => absurd z (by decide), fun z => absurd z (by decide)⟩
set_option maxRecDepth 20000 in
theorem fl_12_294 : mm_PL 12 294 (1, 182, 1, 0, 12) := fun _ => ⟨by decide, mmX12_fail, yX12_fail, cX12_fail, (some .int), mp_X12_fail, mi_X12_fail, pd_3, Or.inl ⟨rfl, wd_1544⟩, fun z => absurd z (by decide), fun _ => wd_1546, fun _ => ⟨ws_44, Or.inl ⟨rfl, by decide⟩, rfl⟩, fun z => absurd z (by decide), fun z => absurd z (by decide)⟩
set_option maxRecDepth 20000 in
theorem fl_12_228 : mm_PL 12 228 (1, 193, 0, 0, 12) := fun _ => ⟨by decide, mmX12_stepOn, yX12_stepOn, cX12_stepOn, none, mp_X12_stepOn, mi_X12_stepOn, pd_4, Or.inl ⟨rfl, wd_1548⟩, fun z => absurd z (by decide), fun _ => wd_1550, fun _ => ⟨ws_45, Or.inl ⟨rfl, by decide⟩, rfl⟩, fun z => absurd z (by decide), fun z => absurd z (by decide)⟩
set_option maxRecDepth 20000 in
theorem fl_12_170 : mm_PL 12 170 (1, 189, 1, 0, 12) := fun _ => ⟨by decide, mmX12_byteAt, yX12_byteAt, cX12_byteAt, (some .int), mp_X12_byteAt, mi_X12_byteAt, pd_3, Or.inl ⟨rfl, wd_1552⟩, fun z => absurd z (by decide), fun _ => wd_1554, fun _ => ⟨ws_46, Or.inl ⟨rfl, by decide⟩, rfl⟩, fun z => absurd z (by decide), fun z => absurd z (by decide)⟩
set_option maxRecDepth 20000 in
theorem fl_12_180 : mm_PL 12 180 (0, 190, 1, 0, 12) := fun _ => ⟨by decide, mmX12_isLetter, yX12_isLetter, cX12_isLetter, (some .boolean), mp_X12_isLetter, mi_X12_isLetter, pd_19, Or.inl ⟨rfl, wd_1556⟩, fun _ => wd_1557, fun z => absurd rfl z, fun z => absurd z (by decide), fun z => absurd z (by decide), fun z => absurd z (by decide)⟩
set_option maxRecDepth 20000 in
theorem fl_12_184 : mm_PL 12 184 (0, 191, 1, 0, 12) := fun _ => ⟨by decide, mmX12_isDigit, yX12_isDigit, cX12_isDigit, (some .boolean), mp_X12_isDigit, mi_X12_isDigit, pd_19, Or.inl ⟨rfl, wd_1559⟩, fun _ => wd_1560, fun z => absurd rfl z, fun z => absurd z (by decide), fun z => absurd z (by decide), fun z => absurd z (by decide)⟩
set_option maxRecDepth 20000 in
theorem fl_12_197 : mm_PL 12 197 (0, 192, 1, 0, 12) := fun _ => ⟨by decide, mmX12_isMark, yX12_isMark, cX12_isMark, (some .boolean), mp_X12_isMark, mi_X12_isMark, pd_19, Or.inl ⟨rfl, wd_1564⟩, fun _ => wd_1565, fun z => absurd rfl z, fun z => absurd z (by decide), fun z => absurd z (by decide), fun z => absurd z (by decide)⟩
set_option maxRecDepth 20000 in
theorem fl_12_297 : mm_PL 12 297 (1, 214, 1, 0, 12) := fun _ => ⟨by decide, mmX12_readLine, yX12_readLine, cX12_readLine, (some .int), mp_X12_readLine, mi_X12_readLine, pd_3, Or.inl ⟨rfl, wd_1567⟩, fun z => absurd z (by decide), fun _ => wd_1569, fun _ => ⟨ws_47, Or.inl ⟨rfl, by decide⟩, rfl⟩, fun z => absurd z (by decide), fun z => absurd z (by decide)⟩
set_option maxRecDepth 20000 in
theorem pd_46 : (parseMethodDescriptor yX12_which.desc).map (fun d => d.parameters.length) = some 1 := by decide +kernel
theorem fl_12_240 : mm_PL 12 240 (1, 196, 1, 0, 12) := fun _ => ⟨by decide, mmX12_which, yX12_which, cX12_which, (some .int), mp_X12_which, mi_X12_which, pd_46, Or.inl ⟨rfl, wd_1571⟩, fun z => absurd z (by decide), fun _ => wd_1573, fun _ => ⟨ws_48, Or.inl ⟨rfl, by decide⟩, rfl⟩, fun z => absurd z (by decide), fun z => absurd z (by decide)⟩
set_option maxRecDepth 20000 in
theorem fl_12_217 : mm_PL 12 217 (1, 195, 1, 0, 12) := fun _ => ⟨by decide, mmX12_is, yX12_is, cX12_is, (some .boolean), mp_X12_is, mi_X12_is, pd_17, Or.inl ⟨rfl, wd_1575⟩, fun z => absurd z (by decide), fun _ => wd_1577, fun _ => ⟨ws_49, Or.inl ⟨rfl, by decide⟩, rfl⟩, fun z => absurd z (by decide), fun z => absurd z (by decide)⟩
set_option maxRecDepth 20000 in
theorem fl_12_209 : mm_PL 12 209 (1, 294, 0, 0, 107) := fun _ => ⟨by decide, mmJ0_length, yJ0_length_8abf5, cJ0_length_8abf5, (some .int), mp_J0_length, mi_J0_length, pd_10, Or.inl ⟨rfl, wd_1579⟩, fun z => absurd z (by decide), fun _ => wd_748, fun _ => ⟨wd_749, Or.inr ⟨rfl, rfl⟩, rfl⟩, fun z => absurd z (by decide), fun z => absurd z (by decide)⟩
set_option maxRecDepth 20000 in
theorem fl_12_213 : mm_PL 12 213 (1, 295, 1, 0, 107) := fun _ => ⟨by decide, mmJ0_charAt, yJ0_charAt_5068e, cJ0_charAt_5068e, (some .char), mp_J0_charAt, mi_J0_charAt, pd_31, Or.inl ⟨rfl, wd_1580⟩, fun z => absurd z (by decide), fun _ => wd_758, fun _ => ⟨wd_759, Or.inr ⟨rfl, rfl⟩, rfl⟩, fun z => absurd z (by decide), fun z => absurd z (by decide)⟩
set_option maxRecDepth 20000 in
theorem fl_12_224 : mm_PL 12 224 (1, 194, 1, 0, 12) := fun _ => ⟨by decide, mmX12_wrong, yX12_wrong, cX12_wrong, none, mp_X12_wrong, mi_X12_wrong, pd_13, Or.inl ⟨rfl, wd_1582⟩, fun z => absurd z (by decide), fun _ => wd_1584, fun _ => ⟨ws_50, Or.inl ⟨rfl, by decide⟩, rfl⟩, fun z => absurd z (by decide), fun z => absurd z (by decide)⟩
set_option maxRecDepth 20000 in
theorem fl_12_283 : mm_PL 12 283 (1, 213, 0, 0, 12) := fun _ => ⟨by decide, mmX12_sayHeat, yX12_sayHeat, cX12_sayHeat, none, mp_X12_sayHeat, mi_X12_sayHeat, pd_4, Or.inl ⟨rfl, wd_1586⟩, fun z => absurd z (by decide), fun _ => wd_1588, fun _ => ⟨ws_51, Or.inl ⟨rfl, by decide⟩, rfl⟩, fun z => absurd z (by decide), fun z => absurd z (by decide)⟩
set_option maxRecDepth 20000 in
theorem fl_12_234 : mm_PL 12 234 (1, 200, 2, 0, 12) := fun _ => ⟨by decide, mmX12_readNumber, yX12_readNumber, cX12_readNumber, (some .int), mp_X12_readNumber, mi_X12_readNumber, pd_8, Or.inl ⟨rfl, wd_1590⟩, fun z => absurd z (by decide), fun _ => wd_1592, fun _ => ⟨ws_52, Or.inl ⟨rfl, by decide⟩, rfl⟩, fun z => absurd z (by decide), fun z => absurd z (by decide)⟩
set_option maxRecDepth 20000 in
theorem fl_12_231 : mm_PL 12 231 (1, 199, 2, 0, 12) := fun _ => ⟨by decide, mmX12_numberNow, yX12_numberNow, cX12_numberNow, (some .int), mp_X12_numberNow, mi_X12_numberNow, pd_8, Or.inl ⟨rfl, wd_1594⟩, fun z => absurd z (by decide), fun _ => wd_1596, fun _ => ⟨ws_53, Or.inl ⟨rfl, by decide⟩, rfl⟩, fun z => absurd z (by decide), fun z => absurd z (by decide)⟩
set_option maxRecDepth 20000 in
theorem fl_12_247 : mm_PL 12 247 (1, 207, 1, 0, 12) := fun _ => ⟨by decide, mmX12_readExpression, yX12_readExpression, cX12_readExpression, none, mp_X12_readExpression, mi_X12_readExpression, pd_13, Or.inl ⟨rfl, wd_1598⟩, fun z => absurd z (by decide), fun _ => wd_1600, fun _ => ⟨ws_54, Or.inl ⟨rfl, by decide⟩, rfl⟩, fun z => absurd z (by decide), fun z => absurd z (by decide)⟩
set_option maxRecDepth 20000 in
theorem fl_12_221 : mm_PL 12 221 (1, 197, 1, 0, 12) := fun _ => ⟨by decide, mmX12_isMarked, yX12_isMarked, cX12_isMarked, (some .boolean), mp_X12_isMarked, mi_X12_isMarked, pd_19, Or.inl ⟨rfl, wd_1602⟩, fun z => absurd z (by decide), fun _ => wd_1604, fun _ => ⟨ws_55, Or.inl ⟨rfl, by decide⟩, rfl⟩, fun z => absurd z (by decide), fun z => absurd z (by decide)⟩
set_option maxRecDepth 20000 in
theorem fl_12_266 : mm_PL 12 266 (1, 206, 1, 0, 12) := fun _ => ⟨by decide, mmX12_readAnd, yX12_readAnd, cX12_readAnd, none, mp_X12_readAnd, mi_X12_readAnd, pd_13, Or.inl ⟨rfl, wd_1606⟩, fun z => absurd z (by decide), fun _ => wd_1608, fun _ => ⟨ws_56, Or.inl ⟨rfl, by decide⟩, rfl⟩, fun z => absurd z (by decide), fun z => absurd z (by decide)⟩
set_option maxRecDepth 20000 in
theorem fl_12_261 : mm_PL 12 261 (1, 205, 1, 0, 12) := fun _ => ⟨by decide, mmX12_readNot, yX12_readNot, cX12_readNot, none, mp_X12_readNot, mi_X12_readNot, pd_13, Or.inl ⟨rfl, wd_1610⟩, fun z => absurd z (by decide), fun _ => wd_1612, fun _ => ⟨ws_57, Or.inl ⟨rfl, by decide⟩, rfl⟩, fun z => absurd z (by decide), fun z => absurd z (by decide)⟩
set_option maxRecDepth 20000 in
theorem fl_12_258 : mm_PL 12 258 (1, 204, 1, 0, 12) := fun _ => ⟨by decide, mmX12_readSum, yX12_readSum, cX12_readSum, none, mp_X12_readSum, mi_X12_readSum, pd_13, Or.inl ⟨rfl, wd_1615⟩, fun z => absurd z (by decide), fun _ => wd_1617, fun _ => ⟨ws_58, Or.inl ⟨rfl, by decide⟩, rfl⟩, fun z => absurd z (by decide), fun z => absurd z (by decide)⟩
set_option maxRecDepth 20000 in
theorem fl_12_253 : mm_PL 12 253 (1, 203, 1, 0, 12) := fun _ => ⟨by decide, mmX12_readProduct, yX12_readProduct, cX12_readProduct, none, mp_X12_readProduct, mi_X12_readProduct, pd_13, Or.inl ⟨rfl, wd_1619⟩, fun z => absurd z (by decide), fun _ => wd_1621, fun _ => ⟨ws_59, Or.inl ⟨rfl, by decide⟩, rfl⟩, fun z => absurd z (by decide), fun z => absurd z (by decide)⟩
set_option maxRecDepth 20000 in
theorem fl_12_250 : mm_PL 12 250 (1, 202, 1, 0, 12) := fun _ => ⟨by decide, mmX12_readPart, yX12_readPart, cX12_readPart, none, mp_X12_readPart, mi_X12_readPart, pd_13, Or.inl ⟨rfl, wd_1623⟩, fun z => absurd z (by decide), fun _ => wd_1625, fun _ => ⟨ws_60, Or.inl ⟨rfl, by decide⟩, rfl⟩, fun z => absurd z (by decide), fun z => absurd z (by decide)⟩
set_option maxRecDepth 20000 in
theorem fl_12_237 : mm_PL 12 237 (1, 201, 1, 0, 12) := fun _ => ⟨by decide, mmX12_lay, yX12_lay, cX12_lay, none, mp_X12_lay, mi_X12_lay, pd_13, Or.inl ⟨rfl, wd_1627⟩, fun z => absurd z (by decide), fun _ => wd_1629, fun _ => ⟨ws_61, Or.inl ⟨rfl, by decide⟩, rfl⟩, fun z => absurd z (by decide), fun z => absurd z (by decide)⟩
set_option maxRecDepth 20000 in
theorem fl_12_244 : mm_PL 12 244 (1, 198, 1, 0, 12) := fun _ => ⟨by decide, mmX12_mark, yX12_mark, cX12_mark, none, mp_X12_mark, mi_X12_mark, pd_13, Or.inl ⟨rfl, wd_1631⟩, fun z => absurd z (by decide), fun _ => wd_1633, fun _ => ⟨ws_62, Or.inl ⟨rfl, by decide⟩, rfl⟩, fun z => absurd z (by decide), fun z => absurd z (by decide)⟩
set_option maxRecDepth 20000 in
theorem fl_12_286 : mm_PL 12 286 (1, 212, 1, 0, 12) := fun _ => ⟨by decide, mmX12_sayTrunk, yX12_sayTrunk, cX12_sayTrunk, none, mp_X12_sayTrunk, mi_X12_sayTrunk, pd_13, Or.inl ⟨rfl, wd_1637⟩, fun z => absurd z (by decide), fun _ => wd_1639, fun _ => ⟨ws_63, Or.inl ⟨rfl, by decide⟩, rfl⟩, fun z => absurd z (by decide), fun z => absurd z (by decide)⟩
set_option maxRecDepth 20000 in
theorem fl_12_271 : mm_PL 12 271 (1, 208, 2, 0, 12) := fun _ => ⟨by decide, mmX12_another, yX12_another, cX12_another, (some .boolean), mp_X12_another, mi_X12_another, pd_43, Or.inl ⟨rfl, wd_1641⟩, fun z => absurd z (by decide), fun _ => wd_1643, fun _ => ⟨ws_64, Or.inl ⟨rfl, by decide⟩, rfl⟩, fun z => absurd z (by decide), fun z => absurd z (by decide)⟩
set_option maxRecDepth 20000 in
theorem fl_12_278 : mm_PL 12 278 (1, 211, 0, 0, 12) := fun _ => ⟨by decide, mmX12_readWhich, yX12_readWhich, cX12_readWhich, (some .int), mp_X12_readWhich, mi_X12_readWhich, pd_10, Or.inl ⟨rfl, wd_1645⟩, fun z => absurd z (by decide), fun _ => wd_1647, fun _ => ⟨ws_65, Or.inl ⟨rfl, by decide⟩, rfl⟩, fun z => absurd z (by decide), fun z => absurd z (by decide)⟩
set_option maxRecDepth 20000 in
theorem fl_12_291 : mm_PL 12 291 (1, 210, 0, 0, 12) := fun _ => ⟨by decide, mmX12_sayWord, yX12_sayWord, cX12_sayWord, none, mp_X12_sayWord, mi_X12_sayWord, pd_4, Or.inl ⟨rfl, wd_1650⟩, fun z => absurd z (by decide), fun _ => wd_1652, fun _ => ⟨ws_66, Or.inl ⟨rfl, by decide⟩, rfl⟩, fun z => absurd z (by decide), fun z => absurd z (by decide)⟩
set_option maxRecDepth 20000 in
theorem fl_12_275 : mm_PL 12 275 (1, 209, 1, 0, 12) := fun _ => ⟨by decide, mmX12_isToldAhead, yX12_isToldAhead, cX12_isToldAhead, (some .boolean), mp_X12_isToldAhead, mi_X12_isToldAhead, pd_19, Or.inl ⟨rfl, wd_1654⟩, fun z => absurd z (by decide), fun _ => wd_1656, fun _ => ⟨ws_67, Or.inl ⟨rfl, by decide⟩, rfl⟩, fun z => absurd z (by decide), fun z => absurd z (by decide)⟩
set_option maxRecDepth 20000 in
theorem fl_12_300 : mm_PL 12 300 (1, 217, 0, 0, 12) := fun _ => ⟨by decide, mmX12_takeOver, yX12_takeOver, cX12_takeOver, none, mp_X12_takeOver, mi_X12_takeOver, pd_4, Or.inl ⟨rfl, wd_1658⟩, fun z => absurd z (by decide), fun _ => wd_1660, fun _ => ⟨ws_68, Or.inl ⟨rfl, by decide⟩, rfl⟩, fun z => absurd z (by decide), fun z => absurd z (by decide)⟩
set_option maxRecDepth 20000 in
theorem fl_12_303 : mm_PL 12 303 (0, 216, 1, 0, 12) := fun _ => ⟨by decide, mmX12_takeHalf, yX12_takeHalf, cX12_takeHalf, none, mp_X12_takeHalf, mi_X12_takeHalf, pd_40, Or.inl ⟨rfl, wd_1662⟩, fun _ => wd_1663, fun z => absurd rfl z, fun z => absurd z (by decide), fun z => absurd z (by decide), fun z => absurd z (by decide)⟩
set_option maxRecDepth 20000 in
theorem fl_12_359 : mm_PL 12 359 (1, 233, 1, 0, 12) := fun _ => ⟨by decide, mmX12_heatOf, yX12_heatOf, cX12_heatOf, (some .int), mp_X12_heatOf, mi_X12_heatOf, pd_3, Or.inl ⟨rfl, wd_1673⟩, fun z => absurd z (by decide), fun _ => wd_1675, fun _ => ⟨ws_69, Or.inl ⟨rfl, by decide⟩, rfl⟩, fun z => absurd z (by decide), fun z => absurd z (by decide)⟩
set_option maxRecDepth 20000 in
theorem fl_12_371 : mm_PL 12 371 (1, 239, 0, 0, 12) := fun _ => ⟨by decide, mmX12_fullOnes, yX12_fullOnes, cX12_fullOnes, (some .int), mp_X12_fullOnes, mi_X12_fullOnes, pd_10, Or.inl ⟨rfl, wd_1677⟩, fun z => absurd z (by decide), fun _ => wd_1679, fun _ => ⟨ws_70, Or.inl ⟨rfl, by decide⟩, rfl⟩, fun z => absurd z (by decide), fun z => absurd z (by decide)⟩
set_option maxRecDepth 20000 in
theorem fl_12_365 : mm_PL 12 365 (1, 235, 1, 0, 12) := fun _ => ⟨by decide, mmX12_isFull, yX12_isFull, cX12_isFull, (some .boolean), mp_X12_isFull, mi_X12_isFull, pd_19, Or.inl ⟨rfl, wd_1681⟩, fun z => absurd z (by decide), fun _ => wd_1683, fun _ => ⟨ws_71, Or.inl ⟨rfl, by decide⟩, rfl⟩, fun z => absurd z (by decide), fun z => absurd z (by decide)⟩
set_option maxRecDepth 20000 in
theorem fl_12_347 : mm_PL 12 347 (1, 234, 1, 0, 12) := fun _ => ⟨by decide, mmX12_fullOf, yX12_fullOf, cX12_fullOf, (some .int), mp_X12_fullOf, mi_X12_fullOf, pd_3, Or.inl ⟨rfl, wd_1685⟩, fun z => absurd z (by decide), fun _ => wd_1687, fun _ => ⟨ws_72, Or.inl ⟨rfl, by decide⟩, rfl⟩, fun z => absurd z (by decide), fun z => absurd z (by decide)⟩
set_option maxRecDepth 20000 in
theorem fl_12_374 : mm_PL 12 374 (1, 242, 0, 0, 12) := fun _ => ⟨by decide, mmX12_treaties, yX12_treaties, cX12_treaties, (some .int), mp_X12_treaties, mi_X12_treaties, pd_10, Or.inl ⟨rfl, wd_1689⟩, fun z => absurd z (by decide), fun _ => wd_1691, fun _ => ⟨ws_73, Or.inl ⟨rfl, by decide⟩, rfl⟩, fun z => absurd z (by decide), fun z => absurd z (by decide)⟩
set_option maxRecDepth 20000 in
theorem fl_12_377 : mm_PL 12 377 (1, 241, 0, 0, 12) := fun _ => ⟨by decide, mmX12_allLetters, yX12_allLetters, cX12_allLetters, (some .int), mp_X12_allLetters, mi_X12_allLetters, pd_10, Or.inl ⟨rfl, wd_1693⟩, fun z => absurd z (by decide), fun _ => wd_1695, fun _ => ⟨ws_74, Or.inl ⟨rfl, by decide⟩, rfl⟩, fun z => absurd z (by decide), fun z => absurd z (by decide)⟩
set_option maxRecDepth 20000 in
theorem fl_12_368 : mm_PL 12 368 (1, 240, 1, 0, 12) := fun _ => ⟨by decide, mmX12_blendSize, yX12_blendSize, cX12_blendSize, (some .int), mp_X12_blendSize, mi_X12_blendSize, pd_3, Or.inl ⟨rfl, wd_1697⟩, fun z => absurd z (by decide), fun _ => wd_1699, fun _ => ⟨ws_75, Or.inl ⟨rfl, by decide⟩, rfl⟩, fun z => absurd z (by decide), fun z => absurd z (by decide)⟩
set_option maxRecDepth 20000 in
theorem fl_12_380 : mm_PL 12 380 (1, 186, 1, 0, 12) := fun _ => ⟨by decide, mmX12_isWord, yX12_isWord, cX12_isWord, (some .boolean), mp_X12_isWord, mi_X12_isWord, pd_19, Or.inl ⟨rfl, wd_1705⟩, fun z => absurd z (by decide), fun _ => wd_1707, fun _ => ⟨ws_76, Or.inl ⟨rfl, by decide⟩, rfl⟩, fun z => absurd z (by decide), fun z => absurd z (by decide)⟩
set_option maxRecDepth 20000 in
theorem pd_47 : (parseMethodDescriptor yX12_isIn.desc).map (fun d => d.parameters.length) = some 3 := by decide +kernel
theorem fl_12_157 : mm_PL 12 157 (0, 183, 3, 0, 12) := fun _ => ⟨by decide, mmX12_isIn, yX12_isIn, cX12_isIn, (some .boolean), mp_X12_isIn, mi_X12_isIn, pd_47, Or.inl ⟨rfl, wd_1709⟩, fun _ => wd_1710, fun z => absurd rfl z, fun z => absurd z (by decide), fun z => absurd z (by decide), fun z => absurd z (by decide)⟩
set_option maxRecDepth 20000 in
theorem fl_12_385 : mm_PL 12 385 (1, 228, 1, 0, 12) := fun _ => ⟨by decide, mmX12_withinOf, yX12_withinOf, cX12_withinOf, (some .int), mp_X12_withinOf, mi_X12_withinOf, pd_3, Or.inl ⟨rfl, wd_1713⟩, fun z => absurd z (by decide), fun _ => wd_1715, fun _ => ⟨ws_77, Or.inl ⟨rfl, by decide⟩, rfl⟩, fun z => absurd z (by decide), fun z => absurd z (by decide)⟩
set_option maxRecDepth 20000 in
theorem fl_12_336 : mm_PL 12 336 (1, 223, 2, 0, 12) := fun _ => ⟨by decide, mmX12_wordInto, yX12_wordInto, cX12_wordInto, (some .int), mp_X12_wordInto, mi_X12_wordInto, pd_0, Or.inl ⟨rfl, wd_1717⟩, fun z => absurd z (by decide), fun _ => wd_1719, fun _ => ⟨ws_78, Or.inl ⟨rfl, by decide⟩, rfl⟩, fun z => absurd z (by decide), fun z => absurd z (by decide)⟩
set_option maxRecDepth 20000 in
theorem fl_12_320 : mm_PL 12 320 (1, 221, 2, 0, 12) := fun _ => ⟨by decide, mmX12_letterOf, yX12_letterOf, cX12_letterOf, (some .int), mp_X12_letterOf, mi_X12_letterOf, pd_8, Or.inl ⟨rfl, wd_1721⟩, fun z => absurd z (by decide), fun _ => wd_1723, fun _ => ⟨ws_79, Or.inl ⟨rfl, by decide⟩, rfl⟩, fun z => absurd z (by decide), fun z => absurd z (by decide)⟩
set_option maxRecDepth 20000 in
theorem fl_12_332 : mm_PL 12 332 (1, 226, 0, 0, 12) := fun _ => ⟨by decide, mmX12_isWithin, yX12_isWithin, cX12_isWithin, (some .boolean), mp_X12_isWithin, mi_X12_isWithin, pd_7, Or.inl ⟨rfl, wd_1725⟩, fun z => absurd z (by decide), fun _ => wd_1727, fun _ => ⟨ws_80, Or.inl ⟨rfl, by decide⟩, rfl⟩, fun z => absurd z (by decide), fun z => absurd z (by decide)⟩
set_option maxRecDepth 20000 in
theorem fl_12_388 : mm_PL 12 388 (1, 230, 1, 0, 12) := fun _ => ⟨by decide, mmX12_anagramsOf, yX12_anagramsOf, cX12_anagramsOf, (some .int), mp_X12_anagramsOf, mi_X12_anagramsOf, pd_3, Or.inl ⟨rfl, wd_1729⟩, fun z => absurd z (by decide), fun _ => wd_1731, fun _ => ⟨ws_81, Or.inl ⟨rfl, by decide⟩, rfl⟩, fun z => absurd z (by decide), fun z => absurd z (by decide)⟩
set_option maxRecDepth 20000 in
theorem fl_12_340 : mm_PL 12 340 (1, 229, 2, 0, 12) := fun _ => ⟨by decide, mmX12_manyOf, yX12_manyOf, cX12_manyOf, (some .int), mp_X12_manyOf, mi_X12_manyOf, pd_8, Or.inl ⟨rfl, wd_1733⟩, fun z => absurd z (by decide), fun _ => wd_1735, fun _ => ⟨ws_82, Or.inl ⟨rfl, by decide⟩, rfl⟩, fun z => absurd z (by decide), fun z => absurd z (by decide)⟩
set_option maxRecDepth 20000 in
theorem fl_12_391 : mm_PL 12 391 (1, 187, 1, 0, 12) := fun _ => ⟨by decide, mmX12_isTrunk, yX12_isTrunk, cX12_isTrunk, (some .boolean), mp_X12_isTrunk, mi_X12_isTrunk, pd_19, Or.inl ⟨rfl, wd_1745⟩, fun z => absurd z (by decide), fun _ => wd_1747, fun _ => ⟨ws_83, Or.inl ⟨rfl, by decide⟩, rfl⟩, fun z => absurd z (by decide), fun z => absurd z (by decide)⟩
set_option maxRecDepth 20000 in
theorem fl_12_394 : mm_PL 12 394 (1, 277, 1, 0, 12) := fun _ => ⟨by decide, mmX12_coupleOf, yX12_coupleOf, cX12_coupleOf, (some .int), mp_X12_coupleOf, mi_X12_coupleOf, pd_3, Or.inl ⟨rfl, wd_1749⟩, fun z => absurd z (by decide), fun _ => wd_1751, fun _ => ⟨ws_84, Or.inl ⟨rfl, by decide⟩, rfl⟩, fun z => absurd z (by decide), fun z => absurd z (by decide)⟩
set_option maxRecDepth 20000 in
theorem fl_12_470 : mm_PL 12 470 (1, 275, 0, 0, 12) := fun _ => ⟨by decide, mmX12_tellCouples, yX12_tellCouples, cX12_tellCouples, none, mp_X12_tellCouples, mi_X12_tellCouples, pd_4, Or.inl ⟨rfl, wd_1753⟩, fun z => absurd z (by decide), fun _ => wd_1755, fun _ => ⟨ws_85, Or.inl ⟨rfl, by decide⟩, rfl⟩, fun z => absurd z (by decide), fun z => absurd z (by decide)⟩
set_option maxRecDepth 20000 in
theorem fl_12_424 : mm_PL 12 424 (1, 224, 2, 0, 12) := fun _ => ⟨by decide, mmX12_blendInto, yX12_blendInto, cX12_blendInto, (some .int), mp_X12_blendInto, mi_X12_blendInto, pd_0, Or.inl ⟨rfl, wd_1757⟩, fun z => absurd z (by decide), fun _ => wd_1759, fun _ => ⟨ws_86, Or.inl ⟨rfl, by decide⟩, rfl⟩, fun z => absurd z (by decide), fun z => absurd z (by decide)⟩
set_option maxRecDepth 20000 in
theorem pd_48 : (parseMethodDescriptor yX12_compared.desc).map (fun d => d.parameters.length) = some 1 := by decide +kernel
theorem fl_12_427 : mm_PL 12 427 (1, 225, 1, 0, 12) := fun _ => ⟨by decide, mmX12_compared, yX12_compared, cX12_compared, (some .int), mp_X12_compared, mi_X12_compared, pd_48, Or.inl ⟨rfl, wd_1761⟩, fun z => absurd z (by decide), fun _ => wd_1763, fun _ => ⟨ws_87, Or.inl ⟨rfl, by decide⟩, rfl⟩, fun z => absurd z (by decide), fun z => absurd z (by decide)⟩
set_option maxRecDepth 20000 in
theorem fl_12_450 : mm_PL 12 450 (0, 184, 2, 0, 12) := fun _ => ⟨by decide, mmX12_isOf, yX12_isOf, cX12_isOf, (some .boolean), mp_X12_isOf, mi_X12_isOf, pd_43, Or.inl ⟨rfl, wd_1766⟩, fun _ => wd_1767, fun z => absurd rfl z, fun z => absurd z (by decide), fun z => absurd z (by decide), fun z => absurd z (by decide)⟩
set_option maxRecDepth 20000 in
theorem fl_12_403 : mm_PL 12 403 (1, 247, 1, 0, 12) := fun _ => ⟨by decide, mmX12_refuse, yX12_refuse, cX12_refuse, (some .int), mp_X12_refuse, mi_X12_refuse, pd_3, Or.inl ⟨rfl, wd_1774⟩, fun z => absurd z (by decide), fun _ => wd_1776, fun _ => ⟨ws_88, Or.inl ⟨rfl, by decide⟩, rfl⟩, fun z => absurd z (by decide), fun z => absurd z (by decide)⟩
set_option maxRecDepth 20000 in
theorem fl_12_406 : mm_PL 12 406 (1, 248, 0, 0, 12) := fun _ => ⟨by decide, mmX12_keep, yX12_keep, cX12_keep, none, mp_X12_keep, mi_X12_keep, pd_4, Or.inl ⟨rfl, wd_1778⟩, fun z => absurd z (by decide), fun _ => wd_1780, fun _ => ⟨ws_89, Or.inl ⟨rfl, by decide⟩, rfl⟩, fun z => absurd z (by decide), fun z => absurd z (by decide)⟩
set_option maxRecDepth 20000 in
theorem fl_12_397 : mm_PL 12 397 (1, 219, 2, 0, 12) := fun _ => ⟨by decide, mmX12_store, yX12_store, cX12_store, none, mp_X12_store, mi_X12_store, pd_28, Or.inl ⟨rfl, wd_1782⟩, fun z => absurd z (by decide), fun _ => wd_1784, fun _ => ⟨ws_90, Or.inl ⟨rfl, by decide⟩, rfl⟩, fun z => absurd z (by decide), fun z => absurd z (by decide)⟩
set_option maxRecDepth 20000 in
theorem fl_12_409 : mm_PL 12 409 (1, 238, 1, 0, 12) := fun _ => ⟨by decide, mmX12_goOn, yX12_goOn, cX12_goOn, none, mp_X12_goOn, mi_X12_goOn, pd_13, Or.inl ⟨rfl, wd_1786⟩, fun z => absurd z (by decide), fun _ => wd_1788, fun _ => ⟨ws_91, Or.inl ⟨rfl, by decide⟩, rfl⟩, fun z => absurd z (by decide), fun z => absurd z (by decide)⟩
set_option maxRecDepth 20000 in
theorem fl_12_362 : mm_PL 12 362 (1, 237, 1, 0, 12) := fun _ => ⟨by decide, mmX12_aDayOf, yX12_aDayOf, cX12_aDayOf, none, mp_X12_aDayOf, mi_X12_aDayOf, pd_13, Or.inl ⟨rfl, wd_1790⟩, fun z => absurd z (by decide), fun _ => wd_1792, fun _ => ⟨ws_92, Or.inl ⟨rfl, by decide⟩, rfl⟩, fun z => absurd z (by decide), fun z => absurd z (by decide)⟩
set_option maxRecDepth 20000 in
theorem fl_12_356 : mm_PL 12 356 (1, 236, 2, 0, 12) := fun _ => ⟨by decide, mmX12_growsOf, yX12_growsOf, cX12_growsOf, (some .int), mp_X12_growsOf, mi_X12_growsOf, pd_8, Or.inl ⟨rfl, wd_1794⟩, fun z => absurd z (by decide), fun _ => wd_1796, fun _ => ⟨ws_93, Or.inl ⟨rfl, by decide⟩, rfl⟩, fun z => absurd z (by decide), fun z => absurd z (by decide)⟩
set_option maxRecDepth 20000 in
theorem fl_12_350 : mm_PL 12 350 (1, 222, 2, 0, 12) := fun _ => ⟨by decide, mmX12_overlapOf, yX12_overlapOf, cX12_overlapOf, (some .int), mp_X12_overlapOf, mi_X12_overlapOf, pd_8, Or.inl ⟨rfl, wd_1798⟩, fun z => absurd z (by decide), fun _ => wd_1800, fun _ => ⟨ws_94, Or.inl ⟨rfl, by decide⟩, rfl⟩, fun z => absurd z (by decide), fun z => absurd z (by decide)⟩
set_option maxRecDepth 20000 in
theorem fl_12_353 : mm_PL 12 353 (1, 232, 0, 0, 12) := fun _ => ⟨by decide, mmX12_valueNow, yX12_valueNow, cX12_valueNow, (some .int), mp_X12_valueNow, mi_X12_valueNow, pd_10, Or.inl ⟨rfl, wd_1802⟩, fun z => absurd z (by decide), fun _ => wd_1804, fun _ => ⟨ws_95, Or.inl ⟨rfl, by decide⟩, rfl⟩, fun z => absurd z (by decide), fun z => absurd z (by decide)⟩
set_option maxRecDepth 20000 in
theorem fl_12_343 : mm_PL 12 343 (0, 231, 3, 0, 12) := fun _ => ⟨by decide, mmX12_reckon, yX12_reckon, cX12_reckon, (some .int), mp_X12_reckon, mi_X12_reckon, pd_15, Or.inl ⟨rfl, wd_1806⟩, fun _ => wd_1807, fun z => absurd rfl z, fun z => absurd z (by decide), fun z => absurd z (by decide), fun z => absurd z (by decide)⟩
set_option maxRecDepth 20000 in
theorem fl_12_414 : mm_PL 12 414 (1, 252, 1, 0, 12) := fun _ => ⟨by decide, mmX12_turnRound, yX12_turnRound, cX12_turnRound, none, mp_X12_turnRound, mi_X12_turnRound, pd_13, Or.inl ⟨rfl, wd_1822⟩, fun z => absurd z (by decide), fun _ => wd_1824, fun _ => ⟨ws_96, Or.inl ⟨rfl, by decide⟩, rfl⟩, fun z => absurd z (by decide), fun z => absurd z (by decide)⟩
set_option maxRecDepth 20000 in
theorem fl_12_417 : mm_PL 12 417 (1, 254, 3, 0, 12) := fun _ => ⟨by decide, mmX12_packIn, yX12_packIn, cX12_packIn, none, mp_X12_packIn, mi_X12_packIn, pd_9, Or.inl ⟨rfl, wd_1830⟩, fun z => absurd z (by decide), fun _ => wd_1832, fun _ => ⟨ws_97, Or.inl ⟨rfl, by decide⟩, rfl⟩, fun z => absurd z (by decide), fun z => absurd z (by decide)⟩
set_option maxRecDepth 20000 in
theorem fl_12_421 : mm_PL 12 421 (1, 220, 2, 0, 12) := fun _ => ⟨by decide, mmX12_recall, yX12_recall, cX12_recall, none, mp_X12_recall, mi_X12_recall, pd_28, Or.inl ⟨rfl, wd_1838⟩, fun z => absurd z (by decide), fun _ => wd_1840, fun _ => ⟨ws_98, Or.inl ⟨rfl, by decide⟩, rfl⟩, fun z => absurd z (by decide), fun z => absurd z (by decide)⟩
set_option maxRecDepth 20000 in
theorem pd_49 : (parseMethodDescriptor yX12_nearest.desc).map (fun d => d.parameters.length) = some 2 := by decide +kernel
theorem fl_12_435 : mm_PL 12 435 (1, 257, 2, 0, 12) := fun _ => ⟨by decide, mmX12_nearest, yX12_nearest, cX12_nearest, (some .int), mp_X12_nearest, mi_X12_nearest, pd_49, Or.inl ⟨rfl, wd_1848⟩, fun z => absurd z (by decide), fun _ => wd_1850, fun _ => ⟨ws_99, Or.inl ⟨rfl, by decide⟩, rfl⟩, fun z => absurd z (by decide), fun z => absurd z (by decide)⟩
set_option maxRecDepth 20000 in
theorem fl_12_441 : mm_PL 12 441 (1, 260, 0, 0, 12) := fun _ => ⟨by decide, mmX12_allGrown, yX12_allGrown, cX12_allGrown, (some .int), mp_X12_allGrown, mi_X12_allGrown, pd_10, Or.inl ⟨rfl, wd_1861⟩, fun z => absurd z (by decide), fun _ => wd_1863, fun _ => ⟨ws_100, Or.inl ⟨rfl, by decide⟩, rfl⟩, fun z => absurd z (by decide), fun z => absurd z (by decide)⟩
set_option maxRecDepth 20000 in
theorem fl_12_444 : mm_PL 12 444 (1, 261, 0, 0, 12) := fun _ => ⟨by decide, mmX12_longestNow, yX12_longestNow, cX12_longestNow, (some .int), mp_X12_longestNow, mi_X12_longestNow, pd_10, Or.inl ⟨rfl, wd_1865⟩, fun z => absurd z (by decide), fun _ => wd_1867, fun _ => ⟨ws_101, Or.inl ⟨rfl, by decide⟩, rfl⟩, fun z => absurd z (by decide), fun z => absurd z (by decide)⟩
set_option maxRecDepth 20000 in
theorem fl_12_447 : mm_PL 12 447 (1, 227, 0, 0, 12) := fun _ => ⟨by decide, mmX12_areSame, yX12_areSame, cX12_areSame, (some .boolean), mp_X12_areSame, mi_X12_areSame, pd_7, Or.inl ⟨rfl, wd_1881⟩, fun z => absurd z (by decide), fun _ => wd_1883, fun _ => ⟨ws_102, Or.inl ⟨rfl, by decide⟩, rfl⟩, fun z => absurd z (by decide), fun z => absurd z (by decide)⟩
set_option maxRecDepth 20000 in
theorem fl_12_461 : mm_PL 12 461 (1, 268, 0, 0, 12) := fun _ => ⟨by decide, mmX12_tellRow, yX12_tellRow, cX12_tellRow, none, mp_X12_tellRow, mi_X12_tellRow, pd_4, Or.inl ⟨rfl, wd_1894⟩, fun z => absurd z (by decide), fun _ => wd_1896, fun _ => ⟨ws_103, Or.inl ⟨rfl, by decide⟩, rfl⟩, fun z => absurd z (by decide), fun z => absurd z (by decide)⟩
set_option maxRecDepth 20000 in
theorem fl_12_453 : mm_PL 12 453 (1, 269, 2, 0, 12) := fun _ => ⟨by decide, mmX12_pushed, yX12_pushed, cX12_pushed, (some .int), mp_X12_pushed, mi_X12_pushed, pd_8, Or.inl ⟨rfl, wd_1898⟩, fun z => absurd z (by decide), fun _ => wd_1900, fun _ => ⟨ws_104, Or.inl ⟨rfl, by decide⟩, rfl⟩, fun z => absurd z (by decide), fun z => absurd z (by decide)⟩
set_option maxRecDepth 20000 in
theorem fl_12_456 : mm_PL 12 456 (1, 267, 2, 0, 12) := fun _ => ⟨by decide, mmX12_madeOn, yX12_madeOn, cX12_madeOn, (some .int), mp_X12_madeOn, mi_X12_madeOn, pd_8, Or.inl ⟨rfl, wd_1902⟩, fun z => absurd z (by decide), fun _ => wd_1904, fun _ => ⟨ws_105, Or.inl ⟨rfl, by decide⟩, rfl⟩, fun z => absurd z (by decide), fun z => absurd z (by decide)⟩
set_option maxRecDepth 20000 in
theorem fl_12_467 : mm_PL 12 467 (1, 272, 0, 0, 12) := fun _ => ⟨by decide, mmX12_tellChain, yX12_tellChain, cX12_tellChain, none, mp_X12_tellChain, mi_X12_tellChain, pd_4, Or.inl ⟨rfl, wd_1910⟩, fun z => absurd z (by decide), fun _ => wd_1912, fun _ => ⟨ws_106, Or.inl ⟨rfl, by decide⟩, rfl⟩, fun z => absurd z (by decide), fun z => absurd z (by decide)⟩
set_option maxRecDepth 20000 in
theorem fl_12_464 : mm_PL 12 464 (1, 271, 2, 0, 12) := fun _ => ⟨by decide, mmX12_follows, yX12_follows, cX12_follows, (some .boolean), mp_X12_follows, mi_X12_follows, pd_43, Or.inl ⟨rfl, wd_1914⟩, fun z => absurd z (by decide), fun _ => wd_1916, fun _ => ⟨ws_107, Or.inl ⟨rfl, by decide⟩, rfl⟩, fun z => absurd z (by decide), fun z => absurd z (by decide)⟩
set_option maxRecDepth 20000 in
theorem fl_12_478 : mm_PL 12 478 (1, 279, 0, 0, 12) := fun _ => ⟨by decide, mmX12_isAsSeen, yX12_isAsSeen, cX12_isAsSeen, (some .boolean), mp_X12_isAsSeen, mi_X12_isAsSeen, pd_7, Or.inl ⟨rfl, wd_1935⟩, fun z => absurd z (by decide), fun _ => wd_1937, fun _ => ⟨ws_108, Or.inl ⟨rfl, by decide⟩, rfl⟩, fun z => absurd z (by decide), fun z => absurd z (by decide)⟩
set_option maxRecDepth 20000 in
theorem fl_12_481 : mm_PL 12 481 (1, 280, 0, 0, 12) := fun _ => ⟨by decide, mmX12_tellFits, yX12_tellFits, cX12_tellFits, none, mp_X12_tellFits, mi_X12_tellFits, pd_4, Or.inl ⟨rfl, wd_1939⟩, fun z => absurd z (by decide), fun _ => wd_1941, fun _ => ⟨ws_109, Or.inl ⟨rfl, by decide⟩, rfl⟩, fun z => absurd z (by decide), fun z => absurd z (by decide)⟩
set_option maxRecDepth 20000 in
theorem fl_12_484 : mm_PL 12 484 (0, 185, 1, 0, 12) := fun _ => ⟨by decide, mmX12_bitsOf, yX12_bitsOf, cX12_bitsOf, (some .int), mp_X12_bitsOf, mi_X12_bitsOf, pd_3, Or.inl ⟨rfl, wd_1947⟩, fun _ => wd_1948, fun z => absurd rfl z, fun z => absurd z (by decide), fun z => absurd z (by decide), fun z => absurd z (by decide)⟩
set_option maxRecDepth 20000 in
theorem fl_12_491 : mm_PL 12 491 (1, 285, 2, 0, 12) := fun _ => ⟨by decide, mmX12_tellGains, yX12_tellGains, cX12_tellGains, none, mp_X12_tellGains, mi_X12_tellGains, pd_16, Or.inl ⟨rfl, wd_1964⟩, fun z => absurd z (by decide), fun _ => wd_1966, fun _ => ⟨ws_110, Or.inl ⟨rfl, by decide⟩, rfl⟩, fun z => absurd z (by decide), fun z => absurd z (by decide)⟩
set_option maxRecDepth 20000 in
theorem fl_12_502 : mm_PL 12 502 (1, 288, 0, 0, 12) := fun _ => ⟨by decide, mmX12_something, yX12_something, cX12_something, none, mp_X12_something, mi_X12_something, pd_4, Or.inl ⟨rfl, wd_1972⟩, fun z => absurd z (by decide), fun _ => wd_1974, fun _ => ⟨ws_111, Or.inl ⟨rfl, by decide⟩, rfl⟩, fun z => absurd z (by decide), fun z => absurd z (by decide)⟩
set_option maxRecDepth 20000 in
theorem fl_12_499 : mm_PL 12 499 (1, 287, 1, 0, 12) := fun _ => ⟨by decide, mmX12_drawOf, yX12_drawOf, cX12_drawOf, (some .int), mp_X12_drawOf, mi_X12_drawOf, pd_3, Or.inl ⟨rfl, wd_1976⟩, fun z => absurd z (by decide), fun _ => wd_1978, fun _ => ⟨ws_112, Or.inl ⟨rfl, by decide⟩, rfl⟩, fun z => absurd z (by decide), fun z => absurd z (by decide)⟩
set_option maxRecDepth 20000 in
theorem fl_12_511 : mm_PL 12 511 (0, 290, 2, 0, 12) := fun _ => ⟨by decide, mmX12_copyTo, yX12_copyTo, cX12_copyTo, none, mp_X12_copyTo, mi_X12_copyTo, pd_30, Or.inl ⟨rfl, wd_1985⟩, fun _ => wd_1986, fun z => absurd rfl z, fun z => absurd z (by decide), fun z => absurd z (by decide), fun z => absurd z (by decide)⟩
set_option maxRecDepth 20000 in
theorem fl_13_91 : mm_PL 13 91 (2, 122, 0, 0, 11) := fun _ => ⟨by decide, mmX11_init, yX11_init, cX11_init, none, mp_X11_init, mi_X11_init, pd_4, Or.inl ⟨rfl, wd_27⟩, fun z => absurd z (by decide), fun _ => wd_28, fun z => absurd z (by decide), fun _ => ⟨rfl, rfl, rfl⟩, fun z => absurd z (by decide)⟩
set_option maxRecDepth 20000 in
theorem pd_50 : (parseMethodDescriptor yX11_feed.desc).map (fun d => d.parameters.length) = some 5 := by decide +kernel
theorem fl_13_95 : mm_PL 13 95 (1, 123, 5, 0, 11) := fun _ => ⟨by decide, mmX11_feed, yX11_feed, cX11_feed, (some .int), mp_X11_feed, mi_X11_feed, pd_50, Or.inl ⟨rfl, wd_382⟩, fun z => absurd z (by decide), fun _ => wd_383, fun _ => ⟨wd_384, Or.inl ⟨rfl, by decide⟩, rfl⟩, fun z => absurd z (by decide), fun z => absurd z (by decide)⟩
set_option maxRecDepth 20000 in
theorem fl_13_106 : mm_PL 13 106 (1, 125, 0, 0, 11) := fun _ => ⟨by decide, mmX11_fault, yX11_fault, cX11_fault, (some .int), mp_X11_fault, mi_X11_fault, pd_10, Or.inl ⟨rfl, wd_390⟩, fun z => absurd z (by decide), fun _ => wd_391, fun _ => ⟨wd_392, Or.inl ⟨rfl, by decide⟩, rfl⟩, fun z => absurd z (by decide), fun z => absurd z (by decide)⟩
set_option maxRecDepth 20000 in
theorem fl_13_124 : mm_PL 13 124 (1, 133, 1, 0, 11) := fun _ => ⟨by decide, mmX11_days, yX11_days, cX11_days, (some .int), mp_X11_days, mi_X11_days, pd_3, Or.inl ⟨rfl, wd_394⟩, fun z => absurd z (by decide), fun _ => wd_395, fun _ => ⟨wd_396, Or.inl ⟨rfl, by decide⟩, rfl⟩, fun z => absurd z (by decide), fun z => absurd z (by decide)⟩
set_option maxRecDepth 20000 in
theorem fl_13_141 : mm_PL 13 141 (1, 138, 0, 0, 11) := fun _ => ⟨by decide, mmX11_undo, yX11_undo, cX11_undo, (some .int), mp_X11_undo, mi_X11_undo, pd_10, Or.inl ⟨rfl, wd_483⟩, fun z => absurd z (by decide), fun _ => wd_484, fun _ => ⟨wd_485, Or.inl ⟨rfl, by decide⟩, rfl⟩, fun z => absurd z (by decide), fun z => absurd z (by decide)⟩
set_option maxRecDepth 20000 in
theorem fl_13_178 : mm_PL 13 178 (1, 152, 0, 0, 11) := fun _ => ⟨by decide, mmX11_couples, yX11_couples, cX11_couples, (some .int), mp_X11_couples, mi_X11_couples, pd_10, Or.inl ⟨rfl, wd_500⟩, fun z => absurd z (by decide), fun _ => wd_501, fun _ => ⟨wd_502, Or.inl ⟨rfl, by decide⟩, rfl⟩, fun z => absurd z (by decide), fun z => absurd z (by decide)⟩
set_option maxRecDepth 20000 in
theorem fl_13_191 : mm_PL 13 191 (1, 157, 0, 0, 11) := fun _ => ⟨by decide, mmX11_forget, yX11_forget, cX11_forget, none, mp_X11_forget, mi_X11_forget, pd_4, Or.inl ⟨rfl, wd_577⟩, fun z => absurd z (by decide), fun _ => wd_578, fun _ => ⟨wd_579, Or.inl ⟨rfl, by decide⟩, rfl⟩, fun z => absurd z (by decide), fun z => absurd z (by decide)⟩
set_option maxRecDepth 20000 in
theorem fl_13_204 : mm_PL 13 204 (1, 169, 0, 0, 11) := fun _ => ⟨by decide, mmX11_image, yX11_image, cX11_image, none, mp_X11_image, mi_X11_image, pd_4, Or.inl ⟨rfl, wd_585⟩, fun z => absurd z (by decide), fun _ => wd_586, fun _ => ⟨wd_587, Or.inl ⟨rfl, by decide⟩, rfl⟩, fun z => absurd z (by decide), fun z => absurd z (by decide)⟩
set_option maxRecDepth 20000 in
theorem fl_13_208 : mm_PL 13 208 (1, 170, 0, 0, 11) := fun _ => ⟨by decide, mmX11_restore, yX11_restore, cX11_restore, (some .boolean), mp_X11_restore, mi_X11_restore, pd_7, Or.inl ⟨rfl, wd_604⟩, fun z => absurd z (by decide), fun _ => wd_605, fun _ => ⟨wd_606, Or.inl ⟨rfl, by decide⟩, rfl⟩, fun z => absurd z (by decide), fun z => absurd z (by decide)⟩
set_option maxRecDepth 20000 in
theorem pd_51 : (parseMethodDescriptor yL_baggage.desc).map (fun d => d.parameters.length) = some 3 := by decide +kernel
theorem fl_13_100 : mm_PL 13 100 (0, 301, 3, 0, 13) := fun _ => ⟨by decide, mmL_baggage, yL_baggage, cL_baggage, (some .int), mp_L_baggage, mi_L_baggage, pd_51, Or.inl ⟨rfl, wd_608⟩, fun _ => wd_609, fun z => absurd rfl z, fun z => absurd z (by decide), fun z => absurd z (by decide), fun z => absurd z (by decide)⟩
set_option maxRecDepth 20000 in
theorem fl_13_7 : mm_PL 13 7 (1, 124, 1, 0, 11) := fun _ => ⟨by decide, mmX11_baggage, yX11_baggage, cX11_baggage, (some .int), mp_X11_baggage, mi_X11_baggage, pd_3, Or.inl ⟨rfl, wd_612⟩, fun z => absurd z (by decide), fun _ => wd_613, fun _ => ⟨wd_614, Or.inl ⟨rfl, by decide⟩, rfl⟩, fun z => absurd z (by decide), fun z => absurd z (by decide)⟩
set_option maxRecDepth 20000 in
theorem fl_13_111 : mm_PL 13 111 (0, 302, 3, 0, 13) := fun _ => ⟨by decide, mmL_count, yL_count, cL_count, (some .int), mp_L_count, mi_L_count, pd_51, Or.inl ⟨rfl, wd_972⟩, fun _ => wd_973, fun z => absurd rfl z, fun z => absurd z (by decide), fun z => absurd z (by decide), fun z => absurd z (by decide)⟩
set_option maxRecDepth 20000 in
theorem fl_13_15 : mm_PL 13 15 (1, 126, 1, 0, 11) := fun _ => ⟨by decide, mmX11_count, yX11_count, cX11_count, (some .int), mp_X11_count, mi_X11_count, pd_3, Or.inl ⟨rfl, wd_976⟩, fun z => absurd z (by decide), fun _ => wd_977, fun _ => ⟨wd_978, Or.inl ⟨rfl, by decide⟩, rfl⟩, fun z => absurd z (by decide), fun z => absurd z (by decide)⟩
set_option maxRecDepth 20000 in
theorem pd_52 : (parseMethodDescriptor yL_word.desc).map (fun d => d.parameters.length) = some 4 := by decide +kernel
theorem fl_13_114 : mm_PL 13 114 (0, 303, 4, 0, 13) := fun _ => ⟨by decide, mmL_word, yL_word, cL_word, (some .int), mp_L_word, mi_L_word, pd_52, Or.inl ⟨rfl, wd_1028⟩, fun _ => wd_1029, fun z => absurd rfl z, fun z => absurd z (by decide), fun z => absurd z (by decide), fun z => absurd z (by decide)⟩
set_option maxRecDepth 20000 in
theorem fl_13_20 : mm_PL 13 20 (1, 129, 2, 0, 11) := fun _ => ⟨by decide, mmX11_word, yX11_word, cX11_word, (some .int), mp_X11_word, mi_X11_word, pd_8, Or.inl ⟨rfl, wd_1031⟩, fun z => absurd z (by decide), fun _ => wd_1032, fun _ => ⟨wd_1033, Or.inl ⟨rfl, by decide⟩, rfl⟩, fun z => absurd z (by decide), fun z => absurd z (by decide)⟩
set_option maxRecDepth 20000 in
theorem fl_13_118 : mm_PL 13 118 (0, 304, 4, 0, 13) := fun _ => ⟨by decide, mmL_letter, yL_letter, cL_letter, (some .int), mp_L_letter, mi_L_letter, pd_52, Or.inl ⟨rfl, wd_1066⟩, fun _ => wd_1067, fun z => absurd rfl z, fun z => absurd z (by decide), fun z => absurd z (by decide), fun z => absurd z (by decide)⟩
set_option maxRecDepth 20000 in
theorem fl_13_24 : mm_PL 13 24 (1, 131, 2, 0, 11) := fun _ => ⟨by decide, mmX11_letter, yX11_letter, cX11_letter, (some .int), mp_X11_letter, mi_X11_letter, pd_8, Or.inl ⟨rfl, wd_1069⟩, fun z => absurd z (by decide), fun _ => wd_1070, fun _ => ⟨wd_1071, Or.inl ⟨rfl, by decide⟩, rfl⟩, fun z => absurd z (by decide), fun z => absurd z (by decide)⟩
set_option maxRecDepth 20000 in
theorem fl_13_121 : mm_PL 13 121 (0, 305, 4, 0, 13) := fun _ => ⟨by decide, mmL_trunk, yL_trunk, cL_trunk, (some .int), mp_L_trunk, mi_L_trunk, pd_52, Or.inl ⟨rfl, wd_1074⟩, fun _ => wd_1075, fun z => absurd rfl z, fun z => absurd z (by decide), fun z => absurd z (by decide), fun z => absurd z (by decide)⟩
set_option maxRecDepth 20000 in
theorem fl_13_27 : mm_PL 13 27 (1, 132, 2, 0, 11) := fun _ => ⟨by decide, mmX11_trunk, yX11_trunk, cX11_trunk, (some .int), mp_X11_trunk, mi_X11_trunk, pd_8, Or.inl ⟨rfl, wd_1077⟩, fun z => absurd z (by decide), fun _ => wd_1078, fun _ => ⟨wd_1079, Or.inl ⟨rfl, by decide⟩, rfl⟩, fun z => absurd z (by decide), fun z => absurd z (by decide)⟩
set_option maxRecDepth 20000 in
theorem fl_13_128 : mm_PL 13 128 (0, 306, 4, 0, 13) := fun _ => ⟨by decide, mmL_draw, yL_draw, cL_draw, (some .int), mp_L_draw, mi_L_draw, pd_52, Or.inl ⟨rfl, wd_1091⟩, fun _ => wd_1092, fun z => absurd rfl z, fun z => absurd z (by decide), fun z => absurd z (by decide), fun z => absurd z (by decide)⟩
set_option maxRecDepth 20000 in
theorem fl_13_30 : mm_PL 13 30 (1, 134, 2, 0, 11) := fun _ => ⟨by decide, mmX11_draw, yX11_draw, cX11_draw, (some .int), mp_X11_draw, mi_X11_draw, pd_8, Or.inl ⟨rfl, wd_1094⟩, fun z => absurd z (by decide), fun _ => wd_1095, fun _ => ⟨wd_1096, Or.inl ⟨rfl, by decide⟩, rfl⟩, fun z => absurd z (by decide), fun z => absurd z (by decide)⟩
set_option maxRecDepth 20000 in
theorem fl_13_131 : mm_PL 13 131 (0, 307, 4, 0, 13) := fun _ => ⟨by decide, mmL_pull, yL_pull, cL_pull, (some .int), mp_L_pull, mi_L_pull, pd_52, Or.inl ⟨rfl, wd_1098⟩, fun _ => wd_1099, fun z => absurd rfl z, fun z => absurd z (by decide), fun z => absurd z (by decide), fun z => absurd z (by decide)⟩
set_option maxRecDepth 20000 in
theorem fl_13_33 : mm_PL 13 33 (1, 135, 2, 0, 11) := fun _ => ⟨by decide, mmX11_pull, yX11_pull, cX11_pull, (some .int), mp_X11_pull, mi_X11_pull, pd_8, Or.inl ⟨rfl, wd_1101⟩, fun z => absurd z (by decide), fun _ => wd_1102, fun _ => ⟨wd_1103, Or.inl ⟨rfl, by decide⟩, rfl⟩, fun z => absurd z (by decide), fun z => absurd z (by decide)⟩
set_option maxRecDepth 20000 in
theorem fl_13_134 : mm_PL 13 134 (0, 308, 3, 0, 13) := fun _ => ⟨by decide, mmL_turn, yL_turn, cL_turn, (some .int), mp_L_turn, mi_L_turn, pd_51, Or.inl ⟨rfl, wd_1107⟩, fun _ => wd_1108, fun z => absurd rfl z, fun z => absurd z (by decide), fun z => absurd z (by decide), fun z => absurd z (by decide)⟩
set_option maxRecDepth 20000 in
theorem fl_13_36 : mm_PL 13 36 (1, 136, 1, 0, 11) := fun _ => ⟨by decide, mmX11_turn, yX11_turn, cX11_turn, (some .int), mp_X11_turn, mi_X11_turn, pd_3, Or.inl ⟨rfl, wd_1110⟩, fun z => absurd z (by decide), fun _ => wd_1111, fun _ => ⟨wd_1112, Or.inl ⟨rfl, by decide⟩, rfl⟩, fun z => absurd z (by decide), fun z => absurd z (by decide)⟩
set_option maxRecDepth 20000 in
theorem pd_53 : (parseMethodDescriptor yL_pack.desc).map (fun d => d.parameters.length) = some 5 := by decide +kernel
theorem fl_13_137 : mm_PL 13 137 (0, 309, 5, 0, 13) := fun _ => ⟨by decide, mmL_pack, yL_pack, cL_pack, (some .int), mp_L_pack, mi_L_pack, pd_53, Or.inl ⟨rfl, wd_1118⟩, fun _ => wd_1119, fun z => absurd rfl z, fun z => absurd z (by decide), fun z => absurd z (by decide), fun z => absurd z (by decide)⟩
set_option maxRecDepth 20000 in
theorem fl_13_39 : mm_PL 13 39 (1, 137, 3, 0, 11) := fun _ => ⟨by decide, mmX11_pack, yX11_pack, cX11_pack, (some .int), mp_X11_pack, mi_X11_pack, pd_15, Or.inl ⟨rfl, wd_1121⟩, fun z => absurd z (by decide), fun _ => wd_1122, fun _ => ⟨wd_1123, Or.inl ⟨rfl, by decide⟩, rfl⟩, fun z => absurd z (by decide), fun z => absurd z (by decide)⟩
set_option maxRecDepth 20000 in
theorem fl_13_145 : mm_PL 13 145 (0, 310, 5, 0, 13) := fun _ => ⟨by decide, mmL_then, yL_then, cL_then, (some .int), mp_L_then, mi_L_then, pd_53, Or.inl ⟨rfl, wd_1129⟩, fun _ => wd_1130, fun z => absurd rfl z, fun z => absurd z (by decide), fun z => absurd z (by decide), fun z => absurd z (by decide)⟩
set_option maxRecDepth 20000 in
theorem fl_13_43 : mm_PL 13 43 (1, 139, 3, 0, 11) := fun _ => ⟨by decide, mmX11_then, yX11_then, cX11_then, (some .int), mp_X11_then, mi_X11_then, pd_15, Or.inl ⟨rfl, wd_1132⟩, fun z => absurd z (by decide), fun _ => wd_1133, fun _ => ⟨wd_1134, Or.inl ⟨rfl, by decide⟩, rfl⟩, fun z => absurd z (by decide), fun z => absurd z (by decide)⟩
set_option maxRecDepth 20000 in
theorem fl_13_148 : mm_PL 13 148 (0, 311, 5, 0, 13) := fun _ => ⟨by decide, mmL_blend, yL_blend, cL_blend, (some .int), mp_L_blend, mi_L_blend, pd_53, Or.inl ⟨rfl, wd_1153⟩, fun _ => wd_1154, fun z => absurd rfl z, fun z => absurd z (by decide), fun z => absurd z (by decide), fun z => absurd z (by decide)⟩
set_option maxRecDepth 20000 in
theorem fl_13_46 : mm_PL 13 46 (1, 141, 3, 0, 11) := fun _ => ⟨by decide, mmX11_blend, yX11_blend, cX11_blend, (some .int), mp_X11_blend, mi_X11_blend, pd_15, Or.inl ⟨rfl, wd_1156⟩, fun z => absurd z (by decide), fun _ => wd_1157, fun _ => ⟨wd_1158, Or.inl ⟨rfl, by decide⟩, rfl⟩, fun z => absurd z (by decide), fun z => absurd z (by decide)⟩
set_option maxRecDepth 20000 in
theorem fl_13_151 : mm_PL 13 151 (0, 312, 4, 0, 13) := fun _ => ⟨by decide, mmL_later, yL_later, cL_later, (some .int), mp_L_later, mi_L_later, pd_52, Or.inl ⟨rfl, wd_1160⟩, fun _ => wd_1161, fun z => absurd rfl z, fun z => absurd z (by decide), fun z => absurd z (by decide), fun z => absurd z (by decide)⟩
set_option maxRecDepth 20000 in
theorem fl_13_49 : mm_PL 13 49 (1, 142, 2, 0, 11) := fun _ => ⟨by decide, mmX11_later, yX11_later, cX11_later, (some .int), mp_X11_later, mi_X11_later, pd_8, Or.inl ⟨rfl, wd_1163⟩, fun z => absurd z (by decide), fun _ => wd_1164, fun _ => ⟨wd_1165, Or.inl ⟨rfl, by decide⟩, rfl⟩, fun z => absurd z (by decide), fun z => absurd z (by decide)⟩
set_option maxRecDepth 20000 in
theorem fl_13_154 : mm_PL 13 154 (0, 313, 3, 0, 13) := fun _ => ⟨by decide, mmL_full, yL_full, cL_full, (some .int), mp_L_full, mi_L_full, pd_51, Or.inl ⟨rfl, wd_1167⟩, fun _ => wd_1168, fun z => absurd rfl z, fun z => absurd z (by decide), fun z => absurd z (by decide), fun z => absurd z (by decide)⟩
set_option maxRecDepth 20000 in
theorem fl_13_52 : mm_PL 13 52 (1, 143, 1, 0, 11) := fun _ => ⟨by decide, mmX11_full, yX11_full, cX11_full, (some .int), mp_X11_full, mi_X11_full, pd_3, Or.inl ⟨rfl, wd_1170⟩, fun z => absurd z (by decide), fun _ => wd_1171, fun _ => ⟨wd_1172, Or.inl ⟨rfl, by decide⟩, rfl⟩, fun z => absurd z (by decide), fun z => absurd z (by decide)⟩
set_option maxRecDepth 20000 in
theorem fl_13_157 : mm_PL 13 157 (0, 314, 4, 0, 13) := fun _ => ⟨by decide, mmL_read, yL_read, cL_read, (some .int), mp_L_read, mi_L_read, pd_52, Or.inl ⟨rfl, wd_1174⟩, fun _ => wd_1175, fun z => absurd rfl z, fun z => absurd z (by decide), fun z => absurd z (by decide), fun z => absurd z (by decide)⟩
set_option maxRecDepth 20000 in
theorem fl_13_55 : mm_PL 13 55 (1, 144, 2, 0, 11) := fun _ => ⟨by decide, mmX11_read, yX11_read, cX11_read, (some .int), mp_X11_read, mi_X11_read, pd_8, Or.inl ⟨rfl, wd_1177⟩, fun z => absurd z (by decide), fun _ => wd_1178, fun _ => ⟨wd_1179, Or.inl ⟨rfl, by decide⟩, rfl⟩, fun z => absurd z (by decide), fun z => absurd z (by decide)⟩
set_option maxRecDepth 20000 in
theorem fl_13_160 : mm_PL 13 160 (0, 315, 4, 0, 13) := fun _ => ⟨by decide, mmL_alike, yL_alike, cL_alike, (some .int), mp_L_alike, mi_L_alike, pd_52, Or.inl ⟨rfl, wd_1182⟩, fun _ => wd_1183, fun z => absurd rfl z, fun z => absurd z (by decide), fun z => absurd z (by decide), fun z => absurd z (by decide)⟩
set_option maxRecDepth 20000 in
theorem fl_13_58 : mm_PL 13 58 (1, 145, 2, 0, 11) := fun _ => ⟨by decide, mmX11_alike, yX11_alike, cX11_alike, (some .int), mp_X11_alike, mi_X11_alike, pd_8, Or.inl ⟨rfl, wd_1185⟩, fun z => absurd z (by decide), fun _ => wd_1186, fun _ => ⟨wd_1187, Or.inl ⟨rfl, by decide⟩, rfl⟩, fun z => absurd z (by decide), fun z => absurd z (by decide)⟩
set_option maxRecDepth 20000 in
theorem fl_13_163 : mm_PL 13 163 (0, 316, 5, 0, 13) := fun _ => ⟨by decide, mmL_both, yL_both, cL_both, (some .int), mp_L_both, mi_L_both, pd_53, Or.inl ⟨rfl, wd_1190⟩, fun _ => wd_1191, fun z => absurd rfl z, fun z => absurd z (by decide), fun z => absurd z (by decide), fun z => absurd z (by decide)⟩
set_option maxRecDepth 20000 in
theorem fl_13_61 : mm_PL 13 61 (1, 148, 3, 0, 11) := fun _ => ⟨by decide, mmX11_both, yX11_both, cX11_both, (some .int), mp_X11_both, mi_X11_both, pd_15, Or.inl ⟨rfl, wd_1193⟩, fun z => absurd z (by decide), fun _ => wd_1194, fun _ => ⟨wd_1195, Or.inl ⟨rfl, by decide⟩, rfl⟩, fun z => absurd z (by decide), fun z => absurd z (by decide)⟩
set_option maxRecDepth 20000 in
theorem fl_13_166 : mm_PL 13 166 (0, 317, 3, 0, 13) := fun _ => ⟨by decide, mmL_row, yL_row, cL_row, (some .int), mp_L_row, mi_L_row, pd_51, Or.inl ⟨rfl, wd_1203⟩, fun _ => wd_1204, fun z => absurd rfl z, fun z => absurd z (by decide), fun z => absurd z (by decide), fun z => absurd z (by decide)⟩
set_option maxRecDepth 20000 in
theorem fl_13_64 : mm_PL 13 64 (1, 149, 1, 0, 11) := fun _ => ⟨by decide, mmX11_row, yX11_row, cX11_row, (some .int), mp_X11_row, mi_X11_row, pd_3, Or.inl ⟨rfl, wd_1206⟩, fun z => absurd z (by decide), fun _ => wd_1207, fun _ => ⟨wd_1208, Or.inl ⟨rfl, by decide⟩, rfl⟩, fun z => absurd z (by decide), fun z => absurd z (by decide)⟩
set_option maxRecDepth 20000 in
theorem fl_13_169 : mm_PL 13 169 (0, 318, 3, 0, 13) := fun _ => ⟨by decide, mmL_chain, yL_chain, cL_chain, (some .int), mp_L_chain, mi_L_chain, pd_51, Or.inl ⟨rfl, wd_1215⟩, fun _ => wd_1216, fun z => absurd rfl z, fun z => absurd z (by decide), fun z => absurd z (by decide), fun z => absurd z (by decide)⟩
set_option maxRecDepth 20000 in
theorem fl_13_67 : mm_PL 13 67 (1, 150, 1, 0, 11) := fun _ => ⟨by decide, mmX11_chain, yX11_chain, cX11_chain, (some .int), mp_X11_chain, mi_X11_chain, pd_3, Or.inl ⟨rfl, wd_1218⟩, fun z => absurd z (by decide), fun _ => wd_1219, fun _ => ⟨wd_1220, Or.inl ⟨rfl, by decide⟩, rfl⟩, fun z => absurd z (by decide), fun z => absurd z (by decide)⟩
set_option maxRecDepth 20000 in
theorem fl_13_175 : mm_PL 13 175 (0, 319, 4, 0, 13) := fun _ => ⟨by decide, mmL_toDraw, yL_toDraw, cL_toDraw, (some .int), mp_L_toDraw, mi_L_toDraw, pd_52, Or.inl ⟨rfl, wd_1230⟩, fun _ => wd_1231, fun z => absurd rfl z, fun z => absurd z (by decide), fun z => absurd z (by decide), fun z => absurd z (by decide)⟩
set_option maxRecDepth 20000 in
theorem fl_13_70 : mm_PL 13 70 (1, 151, 2, 0, 11) := fun _ => ⟨by decide, mmX11_toDraw, yX11_toDraw, cX11_toDraw, (some .int), mp_X11_toDraw, mi_X11_toDraw, pd_8, Or.inl ⟨rfl, wd_1233⟩, fun z => absurd z (by decide), fun _ => wd_1234, fun _ => ⟨wd_1235, Or.inl ⟨rfl, by decide⟩, rfl⟩, fun z => absurd z (by decide), fun z => absurd z (by decide)⟩
set_option maxRecDepth 20000 in
theorem fl_13_182 : mm_PL 13 182 (0, 320, 5, 0, 13) := fun _ => ⟨by decide, mmL_see, yL_see, cL_see, (some .int), mp_L_see, mi_L_see, pd_53, Or.inl ⟨rfl, wd_1237⟩, fun _ => wd_1238, fun z => absurd rfl z, fun z => absurd z (by decide), fun z => absurd z (by decide), fun z => absurd z (by decide)⟩
set_option maxRecDepth 20000 in
theorem fl_13_73 : mm_PL 13 73 (1, 154, 3, 0, 11) := fun _ => ⟨by decide, mmX11_see, yX11_see, cX11_see, (some .int), mp_X11_see, mi_X11_see, pd_15, Or.inl ⟨rfl, wd_1240⟩, fun z => absurd z (by decide), fun _ => wd_1241, fun _ => ⟨wd_1242, Or.inl ⟨rfl, by decide⟩, rfl⟩, fun z => absurd z (by decide), fun z => absurd z (by decide)⟩
set_option maxRecDepth 20000 in
theorem fl_13_185 : mm_PL 13 185 (0, 321, 3, 0, 13) := fun _ => ⟨by decide, mmL_loose, yL_loose, cL_loose, (some .int), mp_L_loose, mi_L_loose, pd_51, Or.inl ⟨rfl, wd_1248⟩, fun _ => wd_1249, fun z => absurd rfl z, fun z => absurd z (by decide), fun z => absurd z (by decide), fun z => absurd z (by decide)⟩
set_option maxRecDepth 20000 in
theorem fl_13_76 : mm_PL 13 76 (1, 155, 1, 0, 11) := fun _ => ⟨by decide, mmX11_loose, yX11_loose, cX11_loose, (some .int), mp_X11_loose, mi_X11_loose, pd_3, Or.inl ⟨rfl, wd_1251⟩, fun z => absurd z (by decide), fun _ => wd_1252, fun _ => ⟨wd_1253, Or.inl ⟨rfl, by decide⟩, rfl⟩, fun z => absurd z (by decide), fun z => absurd z (by decide)⟩
set_option maxRecDepth 20000 in
theorem fl_13_188 : mm_PL 13 188 (0, 322, 3, 0, 13) := fun _ => ⟨by decide, mmL_look, yL_look, cL_look, (some .int), mp_L_look, mi_L_look, pd_51, Or.inl ⟨rfl, wd_1282⟩, fun _ => wd_1283, fun z => absurd rfl z, fun z => absurd z (by decide), fun z => absurd z (by decide), fun z => absurd z (by decide)⟩
set_option maxRecDepth 20000 in
theorem fl_13_79 : mm_PL 13 79 (1, 156, 1, 0, 11) := fun _ => ⟨by decide, mmX11_look, yX11_look, cX11_look, (some .int), mp_X11_look, mi_X11_look, pd_3, Or.inl ⟨rfl, wd_1285⟩, fun z => absurd z (by decide), fun _ => wd_1286, fun _ => ⟨wd_1287, Or.inl ⟨rfl, by decide⟩, rfl⟩, fun z => absurd z (by decide), fun z => absurd z (by decide)⟩
set_option maxRecDepth 20000 in
theorem fl_13_195 : mm_PL 13 195 (0, 323, 5, 0, 13) := fun _ => ⟨by decide, mmL_seasons, yL_seasons, cL_seasons, (some .int), mp_L_seasons, mi_L_seasons, pd_53, Or.inl ⟨rfl, wd_1293⟩, fun _ => wd_1294, fun z => absurd rfl z, fun z => absurd z (by decide), fun z => absurd z (by decide), fun z => absurd z (by decide)⟩
set_option maxRecDepth 20000 in
theorem fl_13_82 : mm_PL 13 82 (1, 163, 3, 0, 11) := fun _ => ⟨by decide, mmX11_seasons, yX11_seasons, cX11_seasons, (some .int), mp_X11_seasons, mi_X11_seasons, pd_15, Or.inl ⟨rfl, wd_1296⟩, fun z => absurd z (by decide), fun _ => wd_1297, fun _ => ⟨wd_1298, Or.inl ⟨rfl, by decide⟩, rfl⟩, fun z => absurd z (by decide), fun z => absurd z (by decide)⟩
set_option maxRecDepth 20000 in
theorem fl_13_198 : mm_PL 13 198 (0, 324, 5, 0, 13) := fun _ => ⟨by decide, mmL_game, yL_game, cL_game, (some .int), mp_L_game, mi_L_game, pd_53, Or.inl ⟨rfl, wd_1300⟩, fun _ => wd_1301, fun z => absurd rfl z, fun z => absurd z (by decide), fun z => absurd z (by decide), fun z => absurd z (by decide)⟩
set_option maxRecDepth 20000 in
theorem fl_13_85 : mm_PL 13 85 (1, 164, 3, 0, 11) := fun _ => ⟨by decide, mmX11_game, yX11_game, cX11_game, (some .int), mp_X11_game, mi_X11_game, pd_15, Or.inl ⟨rfl, wd_1303⟩, fun z => absurd z (by decide), fun _ => wd_1304, fun _ => ⟨wd_1305, Or.inl ⟨rfl, by decide⟩, rfl⟩, fun z => absurd z (by decide), fun z => absurd z (by decide)⟩
set_option maxRecDepth 20000 in
theorem fl_13_201 : mm_PL 13 201 (0, 325, 5, 0, 13) := fun _ => ⟨by decide, mmL_years, yL_years, cL_years, (some .int), mp_L_years, mi_L_years, pd_53, Or.inl ⟨rfl, wd_1311⟩, fun _ => wd_1312, fun z => absurd rfl z, fun z => absurd z (by decide), fun z => absurd z (by decide), fun z => absurd z (by decide)⟩
set_option maxRecDepth 20000 in
theorem fl_13_88 : mm_PL 13 88 (1, 166, 3, 0, 11) := fun _ => ⟨by decide, mmX11_years, yX11_years, cX11_years, (some .int), mp_X11_years, mi_X11_years, pd_15, Or.inl ⟨rfl, wd_1314⟩, fun z => absurd z (by decide), fun _ => wd_1315, fun _ => ⟨wd_1316, Or.inl ⟨rfl, by decide⟩, rfl⟩, fun z => absurd z (by decide), fun z => absurd z (by decide)⟩
set_option maxRecDepth 20000 in
theorem fl_13_94 : mm_PL 13 94 (2, 180, 0, 0, 12) := fun _ => ⟨by decide, mmX12_init, yX12_init, cX12_init, none, mp_X12_init, mi_X12_init, pd_4, Or.inl ⟨rfl, wd_1330⟩, fun z => absurd z (by decide), fun _ => wd_1331, fun z => absurd z (by decide), fun _ => ⟨rfl, rfl, rfl⟩, fun z => absurd z (by decide)⟩
set_option maxRecDepth 20000 in
theorem fl_13_172 : mm_PL 13 172 (1, 181, 0, 0, 12) := fun _ => ⟨by decide, mmX12_thrown, yX12_thrown, cX12_thrown, (some .int), mp_X12_thrown, mi_X12_thrown, pd_10, Or.inl ⟨rfl, wd_1532⟩, fun z => absurd z (by decide), fun _ => wd_1533, fun _ => ⟨wd_1534, Or.inl ⟨rfl, by decide⟩, rfl⟩, fun z => absurd z (by decide), fun z => absurd z (by decide)⟩
set_option maxRecDepth 20000 in
theorem fl_13_99 : mm_PL 13 99 (1, 188, 5, 0, 12) := fun _ => ⟨by decide, mmX12_feed, yX12_feed, cX12_feed, (some .int), mp_X12_feed, mi_X12_feed, pd_50, Or.inl ⟨rfl, wd_1536⟩, fun z => absurd z (by decide), fun _ => wd_1537, fun _ => ⟨wd_1538, Or.inl ⟨rfl, by decide⟩, rfl⟩, fun z => absurd z (by decide), fun z => absurd z (by decide)⟩
set_option maxRecDepth 20000 in
theorem fl_13_105 : mm_PL 13 105 (1, 215, 1, 0, 12) := fun _ => ⟨by decide, mmX12_baggage, yX12_baggage, cX12_baggage, (some .int), mp_X12_baggage, mi_X12_baggage, pd_3, Or.inl ⟨rfl, wd_1540⟩, fun z => absurd z (by decide), fun _ => wd_1541, fun _ => ⟨wd_1542, Or.inl ⟨rfl, by decide⟩, rfl⟩, fun z => absurd z (by decide), fun z => absurd z (by decide)⟩
set_option maxRecDepth 20000 in
theorem fl_13_110 : mm_PL 13 110 (1, 218, 0, 0, 12) := fun _ => ⟨by decide, mmX12_fault, yX12_fault, cX12_fault, (some .int), mp_X12_fault, mi_X12_fault, pd_10, Or.inl ⟨rfl, wd_1665⟩, fun z => absurd z (by decide), fun _ => wd_1666, fun _ => ⟨wd_1667, Or.inl ⟨rfl, by decide⟩, rfl⟩, fun z => absurd z (by decide), fun z => absurd z (by decide)⟩
set_option maxRecDepth 20000 in
theorem fl_13_113 : mm_PL 13 113 (1, 243, 1, 0, 12) := fun _ => ⟨by decide, mmX12_count, yX12_count, cX12_count, (some .int), mp_X12_count, mi_X12_count, pd_3, Or.inl ⟨rfl, wd_1669⟩, fun z => absurd z (by decide), fun _ => wd_1670, fun _ => ⟨wd_1671, Or.inl ⟨rfl, by decide⟩, rfl⟩, fun z => absurd z (by decide), fun z => absurd z (by decide)⟩
set_option maxRecDepth 20000 in
theorem fl_13_117 : mm_PL 13 117 (1, 244, 2, 0, 12) := fun _ => ⟨by decide, mmX12_word, yX12_word, cX12_word, (some .int), mp_X12_word, mi_X12_word, pd_8, Or.inl ⟨rfl, wd_1701⟩, fun z => absurd z (by decide), fun _ => wd_1702, fun _ => ⟨wd_1703, Or.inl ⟨rfl, by decide⟩, rfl⟩, fun z => absurd z (by decide), fun z => absurd z (by decide)⟩
set_option maxRecDepth 20000 in
theorem fl_13_120 : mm_PL 13 120 (1, 245, 2, 0, 12) := fun _ => ⟨by decide, mmX12_letter, yX12_letter, cX12_letter, (some .int), mp_X12_letter, mi_X12_letter, pd_8, Or.inl ⟨rfl, wd_1737⟩, fun z => absurd z (by decide), fun _ => wd_1738, fun _ => ⟨wd_1739, Or.inl ⟨rfl, by decide⟩, rfl⟩, fun z => absurd z (by decide), fun z => absurd z (by decide)⟩
set_option maxRecDepth 20000 in
theorem fl_13_123 : mm_PL 13 123 (1, 246, 2, 0, 12) := fun _ => ⟨by decide, mmX12_trunk, yX12_trunk, cX12_trunk, (some .int), mp_X12_trunk, mi_X12_trunk, pd_8, Or.inl ⟨rfl, wd_1741⟩, fun z => absurd z (by decide), fun _ => wd_1742, fun _ => ⟨wd_1743, Or.inl ⟨rfl, by decide⟩, rfl⟩, fun z => absurd z (by decide), fun z => absurd z (by decide)⟩
set_option maxRecDepth 20000 in
theorem fl_13_127 : mm_PL 13 127 (1, 249, 1, 0, 12) := fun _ => ⟨by decide, mmX12_days, yX12_days, cX12_days, (some .int), mp_X12_days, mi_X12_days, pd_3, Or.inl ⟨rfl, wd_1769⟩, fun z => absurd z (by decide), fun _ => wd_1770, fun _ => ⟨wd_1771, Or.inl ⟨rfl, by decide⟩, rfl⟩, fun z => absurd z (by decide), fun z => absurd z (by decide)⟩
set_option maxRecDepth 20000 in
theorem fl_13_130 : mm_PL 13 130 (1, 250, 2, 0, 12) := fun _ => ⟨by decide, mmX12_draw, yX12_draw, cX12_draw, (some .int), mp_X12_draw, mi_X12_draw, pd_8, Or.inl ⟨rfl, wd_1809⟩, fun z => absurd z (by decide), fun _ => wd_1810, fun _ => ⟨wd_1811, Or.inl ⟨rfl, by decide⟩, rfl⟩, fun z => absurd z (by decide), fun z => absurd z (by decide)⟩
set_option maxRecDepth 20000 in
theorem fl_13_133 : mm_PL 13 133 (1, 251, 2, 0, 12) := fun _ => ⟨by decide, mmX12_pull, yX12_pull, cX12_pull, (some .int), mp_X12_pull, mi_X12_pull, pd_8, Or.inl ⟨rfl, wd_1814⟩, fun z => absurd z (by decide), fun _ => wd_1815, fun _ => ⟨wd_1816, Or.inl ⟨rfl, by decide⟩, rfl⟩, fun z => absurd z (by decide), fun z => absurd z (by decide)⟩
set_option maxRecDepth 20000 in
theorem fl_13_136 : mm_PL 13 136 (1, 253, 1, 0, 12) := fun _ => ⟨by decide, mmX12_turn, yX12_turn, cX12_turn, (some .int), mp_X12_turn, mi_X12_turn, pd_3, Or.inl ⟨rfl, wd_1818⟩, fun z => absurd z (by decide), fun _ => wd_1819, fun _ => ⟨wd_1820, Or.inl ⟨rfl, by decide⟩, rfl⟩, fun z => absurd z (by decide), fun z => absurd z (by decide)⟩
set_option maxRecDepth 20000 in
theorem fl_13_140 : mm_PL 13 140 (1, 255, 3, 0, 12) := fun _ => ⟨by decide, mmX12_pack, yX12_pack, cX12_pack, (some .int), mp_X12_pack, mi_X12_pack, pd_15, Or.inl ⟨rfl, wd_1826⟩, fun z => absurd z (by decide), fun _ => wd_1827, fun _ => ⟨wd_1828, Or.inl ⟨rfl, by decide⟩, rfl⟩, fun z => absurd z (by decide), fun z => absurd z (by decide)⟩
set_option maxRecDepth 20000 in
theorem fl_13_144 : mm_PL 13 144 (1, 256, 0, 0, 12) := fun _ => ⟨by decide, mmX12_undo, yX12_undo, cX12_undo, (some .int), mp_X12_undo, mi_X12_undo, pd_10, Or.inl ⟨rfl, wd_1834⟩, fun z => absurd z (by decide), fun _ => wd_1835, fun _ => ⟨wd_1836, Or.inl ⟨rfl, by decide⟩, rfl⟩, fun z => absurd z (by decide), fun z => absurd z (by decide)⟩
set_option maxRecDepth 20000 in
theorem fl_13_147 : mm_PL 13 147 (1, 258, 3, 0, 12) := fun _ => ⟨by decide, mmX12_then, yX12_then, cX12_then, (some .int), mp_X12_then, mi_X12_then, pd_15, Or.inl ⟨rfl, wd_1842⟩, fun z => absurd z (by decide), fun _ => wd_1843, fun _ => ⟨wd_1844, Or.inl ⟨rfl, by decide⟩, rfl⟩, fun z => absurd z (by decide), fun z => absurd z (by decide)⟩
set_option maxRecDepth 20000 in
theorem fl_13_150 : mm_PL 13 150 (1, 259, 3, 0, 12) := fun _ => ⟨by decide, mmX12_blend, yX12_blend, cX12_blend, (some .int), mp_X12_blend, mi_X12_blend, pd_15, Or.inl ⟨rfl, wd_1852⟩, fun z => absurd z (by decide), fun _ => wd_1853, fun _ => ⟨wd_1854, Or.inl ⟨rfl, by decide⟩, rfl⟩, fun z => absurd z (by decide), fun z => absurd z (by decide)⟩
set_option maxRecDepth 20000 in
theorem fl_13_153 : mm_PL 13 153 (1, 262, 2, 0, 12) := fun _ => ⟨by decide, mmX12_later, yX12_later, cX12_later, (some .int), mp_X12_later, mi_X12_later, pd_8, Or.inl ⟨rfl, wd_1856⟩, fun z => absurd z (by decide), fun _ => wd_1857, fun _ => ⟨wd_1858, Or.inl ⟨rfl, by decide⟩, rfl⟩, fun z => absurd z (by decide), fun z => absurd z (by decide)⟩
set_option maxRecDepth 20000 in
theorem fl_13_156 : mm_PL 13 156 (1, 263, 1, 0, 12) := fun _ => ⟨by decide, mmX12_full, yX12_full, cX12_full, (some .int), mp_X12_full, mi_X12_full, pd_3, Or.inl ⟨rfl, wd_1869⟩, fun z => absurd z (by decide), fun _ => wd_1870, fun _ => ⟨wd_1871, Or.inl ⟨rfl, by decide⟩, rfl⟩, fun z => absurd z (by decide), fun z => absurd z (by decide)⟩
set_option maxRecDepth 20000 in
theorem fl_13_159 : mm_PL 13 159 (1, 264, 2, 0, 12) := fun _ => ⟨by decide, mmX12_read, yX12_read, cX12_read, (some .int), mp_X12_read, mi_X12_read, pd_8, Or.inl ⟨rfl, wd_1873⟩, fun z => absurd z (by decide), fun _ => wd_1874, fun _ => ⟨wd_1875, Or.inl ⟨rfl, by decide⟩, rfl⟩, fun z => absurd z (by decide), fun z => absurd z (by decide)⟩
set_option maxRecDepth 20000 in
theorem fl_13_162 : mm_PL 13 162 (1, 265, 2, 0, 12) := fun _ => ⟨by decide, mmX12_alike, yX12_alike, cX12_alike, (some .int), mp_X12_alike, mi_X12_alike, pd_8, Or.inl ⟨rfl, wd_1877⟩, fun z => absurd z (by decide), fun _ => wd_1878, fun _ => ⟨wd_1879, Or.inl ⟨rfl, by decide⟩, rfl⟩, fun z => absurd z (by decide), fun z => absurd z (by decide)⟩
set_option maxRecDepth 20000 in
theorem fl_13_165 : mm_PL 13 165 (1, 266, 3, 0, 12) := fun _ => ⟨by decide, mmX12_both, yX12_both, cX12_both, (some .int), mp_X12_both, mi_X12_both, pd_15, Or.inl ⟨rfl, wd_1885⟩, fun z => absurd z (by decide), fun _ => wd_1886, fun _ => ⟨wd_1887, Or.inl ⟨rfl, by decide⟩, rfl⟩, fun z => absurd z (by decide), fun z => absurd z (by decide)⟩
set_option maxRecDepth 20000 in
theorem fl_13_168 : mm_PL 13 168 (1, 270, 1, 0, 12) := fun _ => ⟨by decide, mmX12_row, yX12_row, cX12_row, (some .int), mp_X12_row, mi_X12_row, pd_3, Or.inl ⟨rfl, wd_1889⟩, fun z => absurd z (by decide), fun _ => wd_1890, fun _ => ⟨wd_1891, Or.inl ⟨rfl, by decide⟩, rfl⟩, fun z => absurd z (by decide), fun z => absurd z (by decide)⟩
set_option maxRecDepth 20000 in
theorem fl_13_171 : mm_PL 13 171 (1, 273, 1, 0, 12) := fun _ => ⟨by decide, mmX12_chain, yX12_chain, cX12_chain, (some .int), mp_X12_chain, mi_X12_chain, pd_3, Or.inl ⟨rfl, wd_1906⟩, fun z => absurd z (by decide), fun _ => wd_1907, fun _ => ⟨wd_1908, Or.inl ⟨rfl, by decide⟩, rfl⟩, fun z => absurd z (by decide), fun z => absurd z (by decide)⟩
set_option maxRecDepth 20000 in
theorem fl_13_177 : mm_PL 13 177 (1, 274, 2, 0, 12) := fun _ => ⟨by decide, mmX12_toDraw, yX12_toDraw, cX12_toDraw, (some .int), mp_X12_toDraw, mi_X12_toDraw, pd_8, Or.inl ⟨rfl, wd_1918⟩, fun z => absurd z (by decide), fun _ => wd_1919, fun _ => ⟨wd_1920, Or.inl ⟨rfl, by decide⟩, rfl⟩, fun z => absurd z (by decide), fun z => absurd z (by decide)⟩
set_option maxRecDepth 20000 in
theorem fl_13_181 : mm_PL 13 181 (1, 276, 0, 0, 12) := fun _ => ⟨by decide, mmX12_couples, yX12_couples, cX12_couples, (some .int), mp_X12_couples, mi_X12_couples, pd_10, Or.inl ⟨rfl, wd_1922⟩, fun z => absurd z (by decide), fun _ => wd_1923, fun _ => ⟨wd_1924, Or.inl ⟨rfl, by decide⟩, rfl⟩, fun z => absurd z (by decide), fun z => absurd z (by decide)⟩
set_option maxRecDepth 20000 in
theorem fl_13_184 : mm_PL 13 184 (1, 278, 3, 0, 12) := fun _ => ⟨by decide, mmX12_see, yX12_see, cX12_see, (some .int), mp_X12_see, mi_X12_see, pd_15, Or.inl ⟨rfl, wd_1926⟩, fun z => absurd z (by decide), fun _ => wd_1927, fun _ => ⟨wd_1928, Or.inl ⟨rfl, by decide⟩, rfl⟩, fun z => absurd z (by decide), fun z => absurd z (by decide)⟩
set_option maxRecDepth 20000 in
theorem fl_13_187 : mm_PL 13 187 (1, 281, 1, 0, 12) := fun _ => ⟨by decide, mmX12_loose, yX12_loose, cX12_loose, (some .int), mp_X12_loose, mi_X12_loose, pd_3, Or.inl ⟨rfl, wd_1931⟩, fun z => absurd z (by decide), fun _ => wd_1932, fun _ => ⟨wd_1933, Or.inl ⟨rfl, by decide⟩, rfl⟩, fun z => absurd z (by decide), fun z => absurd z (by decide)⟩
set_option maxRecDepth 20000 in
theorem fl_13_190 : mm_PL 13 190 (1, 282, 1, 0, 12) := fun _ => ⟨by decide, mmX12_look, yX12_look, cX12_look, (some .int), mp_X12_look, mi_X12_look, pd_3, Or.inl ⟨rfl, wd_1943⟩, fun z => absurd z (by decide), fun _ => wd_1944, fun _ => ⟨wd_1945, Or.inl ⟨rfl, by decide⟩, rfl⟩, fun z => absurd z (by decide), fun z => absurd z (by decide)⟩
set_option maxRecDepth 20000 in
theorem fl_13_194 : mm_PL 13 194 (1, 283, 0, 0, 12) := fun _ => ⟨by decide, mmX12_forget, yX12_forget, cX12_forget, none, mp_X12_forget, mi_X12_forget, pd_4, Or.inl ⟨rfl, wd_1950⟩, fun z => absurd z (by decide), fun _ => wd_1951, fun _ => ⟨wd_1952, Or.inl ⟨rfl, by decide⟩, rfl⟩, fun z => absurd z (by decide), fun z => absurd z (by decide)⟩
set_option maxRecDepth 20000 in
theorem fl_13_197 : mm_PL 13 197 (1, 284, 3, 0, 12) := fun _ => ⟨by decide, mmX12_seasons, yX12_seasons, cX12_seasons, (some .int), mp_X12_seasons, mi_X12_seasons, pd_15, Or.inl ⟨rfl, wd_1954⟩, fun z => absurd z (by decide), fun _ => wd_1955, fun _ => ⟨wd_1956, Or.inl ⟨rfl, by decide⟩, rfl⟩, fun z => absurd z (by decide), fun z => absurd z (by decide)⟩
set_option maxRecDepth 20000 in
theorem fl_13_200 : mm_PL 13 200 (1, 286, 3, 0, 12) := fun _ => ⟨by decide, mmX12_game, yX12_game, cX12_game, (some .int), mp_X12_game, mi_X12_game, pd_15, Or.inl ⟨rfl, wd_1960⟩, fun z => absurd z (by decide), fun _ => wd_1961, fun _ => ⟨wd_1962, Or.inl ⟨rfl, by decide⟩, rfl⟩, fun z => absurd z (by decide), fun z => absurd z (by decide)⟩
set_option maxRecDepth 20000 in
theorem fl_13_203 : mm_PL 13 203 (1, 289, 3, 0, 12) := fun _ => ⟨by decide, mmX12_years, yX12_years, cX12_years, (some .int), mp_X12_years, mi_X12_years, pd_15, Or.inl ⟨rfl, wd_1968⟩, fun z => absurd z (by decide), fun _ => wd_1969, fun _ => ⟨wd_1970, Or.inl ⟨rfl, by decide⟩, rfl⟩, fun z => absurd z (by decide), fun z => absurd z (by decide)⟩
set_option maxRecDepth 20000 in
theorem fl_13_207 : mm_PL 13 207 (1, 291, 0, 0, 12) := fun _ => ⟨by decide, mmX12_image, yX12_image, cX12_image, none, mp_X12_image, mi_X12_image, pd_4, Or.inl ⟨rfl, wd_1981⟩, fun z => absurd z (by decide), fun _ => wd_1982, fun _ => ⟨wd_1983, Or.inl ⟨rfl, by decide⟩, rfl⟩, fun z => absurd z (by decide), fun z => absurd z (by decide)⟩
set_option maxRecDepth 20000 in
theorem fl_13_212 : mm_PL 13 212 (1, 292, 0, 0, 12) := fun _ => ⟨by decide, mmX12_restore, yX12_restore, cX12_restore, (some .boolean), mp_X12_restore, mi_X12_restore, pd_7, Or.inl ⟨rfl, wd_1988⟩, fun z => absurd z (by decide), fun _ => wd_1989, fun _ => ⟨wd_1990, Or.inl ⟨rfl, by decide⟩, rfl⟩, fun z => absurd z (by decide), fun z => absurd z (by decide)⟩
set_option maxRecDepth 20000 in
theorem pd_54 : (parseMethodDescriptor yJ0_coder_7d493.desc).map (fun d => d.parameters.length) = some 0 := by decide +kernel
theorem fl_16_335 : mm_PL 16 335 (1, 296, 0, 0, 107) := fun _ => ⟨by decide, mmJ0_coder, yJ0_coder_7d493, cJ0_coder_7d493, (some .byte), mp_J0_coder, mi_J0_coder, pd_54, Or.inl ⟨rfl, wd_751⟩, fun z => absurd z (by decide), fun _ => wd_752, fun _ => ⟨wd_753, Or.inr ⟨rfl, rfl⟩, rfl⟩, fun z => absurd z (by decide), fun z => absurd z (by decide)⟩
set_option maxRecDepth 20000 in
theorem fl_16_492 : mm_PL 16 492 (1, 297, 0, 0, 107) := fun _ => ⟨by decide, mmJ0_isLatin1, yJ0_isLatin1_aae02, cJ0_isLatin1_aae02, (some .boolean), mp_J0_isLatin1, mi_J0_isLatin1, pd_7, Or.inl ⟨rfl, wd_761⟩, fun z => absurd z (by decide), fun _ => wd_762, fun _ => ⟨wd_763, Or.inr ⟨rfl, rfl⟩, rfl⟩, fun z => absurd z (by decide), fun z => absurd z (by decide)⟩
set_option maxRecDepth 20000 in
theorem pd_55 : (parseMethodDescriptor yJ1_charAt_3b067.desc).map (fun d => d.parameters.length) = some 2 := by decide +kernel
theorem fl_16_495 : mm_PL 16 495 (0, 299, 2, 0, 17) := fun _ => ⟨by decide, mmJ1_charAt, yJ1_charAt_3b067, cJ1_charAt_3b067, (some .char), mp_J1_charAt, mi_J1_charAt, pd_55, Or.inl ⟨rfl, wd_765⟩, fun _ => wd_766, fun z => absurd rfl z, fun z => absurd z (by decide), fun z => absurd z (by decide), fun z => absurd z (by decide)⟩
set_option maxRecDepth 20000 in
theorem pd_56 : (parseMethodDescriptor yJ3_checkIndex_8e157.desc).map (fun d => d.parameters.length) = some 3 := by decide +kernel
theorem fl_16_1059 : mm_PL 16 1059 (0, 300, 3, 0, 18) := fun _ => ⟨by decide, mmJ3_checkIndex, yJ3_checkIndex_8e157, cJ3_checkIndex_8e157, (some .int), mp_J3_checkIndex, mi_J3_checkIndex, pd_56, Or.inl ⟨rfl, wd_773⟩, fun _ => wd_774, fun z => absurd rfl z, fun z => absurd z (by decide), fun z => absurd z (by decide), fun z => absurd z (by decide)⟩
set_option maxRecDepth 20000 in
theorem fl_17_9 : mm_PL 17 9 (0, 298, 2, 0, 107) := fun _ => ⟨by decide, mmJ0_checkIndex, yJ0_checkIndex_df160, cJ0_checkIndex_df160, none, mp_J0_checkIndex, mi_J0_checkIndex, pd_16, Or.inl ⟨rfl, wd_768⟩, fun _ => wd_769, fun z => absurd rfl z, fun z => absurd z (by decide), fun z => absurd z (by decide), fun z => absurd z (by decide)⟩
set_option maxRecDepth 100000 in
theorem mm_FL_ok : mm_FL 326 := fun own j kind mi n ne ci h hk => mm_tab_of (P := mm_PL) (T := mm_mthT) (⟨⟨fun z => absurd z (by decide), ⟨fl_0_23, ⟨fl_0_17, ⟨fl_0_27, ⟨fun z => absurd z (by decide), ⟨fun z => absurd z (by decide), ⟨fl_0_40, trivial⟩⟩⟩⟩⟩⟩⟩, ⟨⟨fun z => absurd z (by decide), ⟨fl_1_11, ⟨fl_1_20, ⟨fl_1_35, ⟨fl_1_113, ⟨fl_1_53, ⟨fl_1_99, ⟨fl_1_116, ⟨fl_1_123, ⟨fl_1_127, ⟨fl_1_130, ⟨fl_1_133, ⟨fl_1_136, ⟨fl_1_140, ⟨fun z => absurd z (by decide), ⟨fun z => absurd z (by decide), ⟨fl_1_84, ⟨fl_1_62, ⟨fl_1_66, ⟨fl_1_88, ⟨fl_1_91, ⟨fl_1_95, ⟨fl_1_40, ⟨fl_1_46, ⟨fl_1_49, ⟨fl_1_103, ⟨fl_1_107, trivial⟩⟩⟩⟩⟩⟩⟩⟩⟩⟩⟩⟩⟩⟩⟩⟩⟩⟩⟩⟩⟩⟩⟩⟩⟩⟩⟩, ⟨⟨fun z => absurd z (by decide), ⟨fl_2_15, ⟨fl_2_21, ⟨fl_2_25, ⟨fl_2_29, ⟨fun z => absurd z (by decide), ⟨fun z => absurd z (by decide), trivial⟩⟩⟩⟩⟩⟩⟩, ⟨⟨fun z => absurd z (by decide), ⟨fl_3_25, ⟨fl_3_33, ⟨fl_3_41, ⟨fl_3_45, ⟨fl_3_29, ⟨fl_3_51, ⟨fun z => absurd z (by decide), ⟨fl_3_37, trivial⟩⟩⟩⟩⟩⟩⟩⟩⟩, ⟨⟨fun z => absurd z (by decide), ⟨fl_4_11, ⟨fl_4_45, ⟨fl_4_48, ⟨fl_4_57, ⟨fl_4_67, ⟨fl_4_102, ⟨fl_4_95, ⟨fl_4_52, ⟨fl_4_99, ⟨fl_4_107, ⟨fl_4_110, ⟨fl_4_114, ⟨fl_4_118, ⟨fl_4_122, ⟨fl_4_129, ⟨fl_4_126, ⟨fl_4_75, ⟨fl_4_141, ⟨fl_4_81, ⟨fl_4_148, ⟨fl_4_91, ⟨fl_4_151, ⟨fl_4_157, ⟨fl_4_161, ⟨fl_4_164, ⟨fl_4_174, ⟨fl_4_195, ⟨fl_4_179, ⟨fl_4_182, ⟨fl_4_167, ⟨fl_4_170, ⟨fl_4_192, ⟨fl_4_199, ⟨fl_4_188, ⟨fl_4_185, trivial⟩⟩⟩⟩⟩⟩⟩⟩⟩⟩⟩⟩⟩⟩⟩⟩⟩⟩⟩⟩⟩⟩⟩⟩⟩⟩⟩⟩⟩⟩⟩⟩⟩⟩⟩⟩, ⟨⟨fun z => absurd z (by decide), ⟨fl_5_25, ⟨fl_5_37, ⟨fl_5_41, trivial⟩⟩⟩⟩, ⟨⟨fun z => absurd z (by decide), ⟨fl_6_11, ⟨fl_6_52, ⟨fl_6_56, ⟨fl_6_60, ⟨fl_6_64, ⟨fl_6_44, ⟨fl_6_48, ⟨fun z => absurd z (by decide), trivial⟩⟩⟩⟩⟩⟩⟩⟩⟩, ⟨⟨fun z => absurd z (by decide), ⟨fl_7_34, ⟨fl_7_37, ⟨fl_7_41, ⟨fl_7_45, ⟨fl_7_48, ⟨fl_7_51, ⟨fl_7_54, ⟨fl_7_57, ⟨fl_7_61, ⟨fl_7_65, ⟨fl_7_69, ⟨fl_7_74, trivial⟩⟩⟩⟩⟩⟩⟩⟩⟩⟩⟩⟩⟩, ⟨⟨fun z => absurd z (by decide), trivial⟩, ⟨⟨fun z => absurd z (by decide), ⟨fl_9_17, ⟨fl_9_53, ⟨fl_9_29, ⟨fl_9_57, ⟨fl_9_49, trivial⟩⟩⟩⟩⟩⟩, ⟨⟨fun z => absurd z (by decide), ⟨fl_10_17, ⟨fl_10_62, ⟨fl_10_50, ⟨fl_10_54, ⟨fl_10_58, ⟨fl_10_72, ⟨fl_10_76, ⟨fl_10_80, ⟨fl_10_84, ⟨fl_10_98, ⟨fun z => absurd z (by decide), ⟨fl_10_107, ⟨fl_10_88, ⟨fl_10_91, ⟨fl_10_94, ⟨fl_10_66, ⟨fl_10_69, trivial⟩⟩⟩⟩⟩⟩⟩⟩⟩⟩⟩⟩⟩⟩⟩⟩⟩⟩, ⟨⟨fun z => absurd z (by decide), ⟨fl_11_15, ⟨fl_11_25, ⟨fl_11_36, ⟨fl_11_50, ⟨fl_11_57, ⟨fl_11_64, ⟨fl_11_74, ⟨fl_11_81, ⟨fl_11_103, ⟨fl_11_131, ⟨fl_11_253, ⟨fl_11_256, ⟨fl_11_177, ⟨fl_11_276, ⟨fl_11_247, ⟨fl_11_155, ⟨fl_11_192, ⟨fl_11_286, ⟨fl_11_293, ⟨fl_11_337, ⟨fl_11_340, ⟨fl_11_334, ⟨fl_11_367, ⟨fl_11_394, ⟨fl_11_106, ⟨fl_11_110, ⟨fl_11_113, ⟨fl_11_116, ⟨fl_11_120, ⟨fl_11_124, ⟨fl_11_128, ⟨fl_11_139, ⟨fl_11_148, ⟨fl_11_152, ⟨fl_11_164, ⟨fl_11_167, ⟨fl_11_171, ⟨fl_11_174, ⟨fl_11_180, ⟨fl_11_183, ⟨fl_11_186, ⟨fl_11_199, ⟨fl_11_203, ⟨fl_11_207, ⟨fl_11_210, ⟨fl_11_213, ⟨fl_11_216, ⟨fl_11_219, ⟨fl_11_228, ⟨fl_11_231, ⟨fl_11_240, ⟨fl_11_244, ⟨fl_11_250, ⟨fl_11_259, ⟨fun z => absurd z (by decide), ⟨fl_11_269, ⟨fl_11_272, ⟨fl_11_279, ⟨fl_11_282, ⟨fl_11_297, ⟨fl_11_301, ⟨fl_11_312, ⟨fl_11_290, ⟨fl_11_305, ⟨fl_11_309, ⟨fl_11_316, ⟨fl_11_319, ⟨fl_11_322, ⟨fl_11_325, ⟨fl_11_328, ⟨fl_11_331, ⟨fl_11_343, ⟨fl_11_346, ⟨fl_11_370, ⟨fl_11_374, ⟨fl_11_377, ⟨fl_11_349, ⟨fl_11_352, ⟨fl_11_355, ⟨fl_11_358, ⟨fl_11_363, ⟨fl_11_381, ⟨fl_11_384, ⟨fl_11_387, ⟨fl_11_390, trivial⟩⟩⟩⟩⟩⟩⟩⟩⟩⟩⟩⟩⟩⟩⟩⟩⟩⟩⟩⟩⟩⟩⟩⟩⟩⟩⟩⟩⟩⟩⟩⟩⟩⟩⟩⟩⟩⟩⟩⟩⟩⟩⟩⟩⟩⟩⟩⟩⟩⟩⟩⟩⟩⟩⟩⟩⟩⟩⟩⟩⟩⟩⟩⟩⟩⟩⟩⟩⟩⟩⟩⟩⟩⟩⟩⟩⟩⟩⟩⟩⟩⟩⟩⟩⟩⟩, ⟨⟨fun z => absurd z (by decide), ⟨fl_12_294, ⟨fl_12_228, ⟨fl_12_170, ⟨fl_12_180, ⟨fl_12_184, ⟨fun z => absurd z (by decide), ⟨fl_12_197, ⟨fl_12_297, ⟨fl_12_240, ⟨fl_12_217, ⟨fl_12_209, ⟨fl_12_213, ⟨fl_12_224, ⟨fl_12_283, ⟨fl_12_234, ⟨fl_12_231, ⟨fl_12_247, ⟨fl_12_221, ⟨fl_12_266, ⟨fl_12_261, ⟨fl_12_258, ⟨fl_12_253, ⟨fl_12_250, ⟨fl_12_237, ⟨fl_12_244, ⟨fl_12_286, ⟨fl_12_271, ⟨fl_12_278, ⟨fl_12_291, ⟨fl_12_275, ⟨fl_12_300, ⟨fl_12_303, ⟨fl_12_359, ⟨fl_12_371, ⟨fl_12_365, ⟨fl_12_347, ⟨fl_12_374, ⟨fl_12_377, ⟨fl_12_368, ⟨fl_12_380, ⟨fl_12_157, ⟨fl_12_385, ⟨fl_12_336, ⟨fl_12_320, ⟨fl_12_332, ⟨fl_12_388, ⟨fl_12_340, ⟨fl_12_391, ⟨fl_12_394, ⟨fl_12_470, ⟨fl_12_424, ⟨fl_12_427, ⟨fun z => absurd z (by decide), ⟨fl_12_450, ⟨fl_12_403, ⟨fl_12_406, ⟨fl_12_397, ⟨fl_12_409, ⟨fl_12_362, ⟨fl_12_356, ⟨fl_12_350, ⟨fl_12_353, ⟨fl_12_343, ⟨fl_12_414, ⟨fl_12_417, ⟨fl_12_421, ⟨fl_12_435, ⟨fl_12_441, ⟨fl_12_444, ⟨fl_12_447, ⟨fl_12_461, ⟨fl_12_453, ⟨fl_12_456, ⟨fl_12_467, ⟨fl_12_464, ⟨fl_12_478, ⟨fl_12_481, ⟨fl_12_484, ⟨fl_12_491, ⟨fl_12_502, ⟨fl_12_499, ⟨fl_12_511, trivial⟩⟩⟩⟩⟩⟩⟩⟩⟩⟩⟩⟩⟩⟩⟩⟩⟩⟩⟩⟩⟩⟩⟩⟩⟩⟩⟩⟩⟩⟩⟩⟩⟩⟩⟩⟩⟩⟩⟩⟩⟩⟩⟩⟩⟩⟩⟩⟩⟩⟩⟩⟩⟩⟩⟩⟩⟩⟩⟩⟩⟩⟩⟩⟩⟩⟩⟩⟩⟩⟩⟩⟩⟩⟩⟩⟩⟩⟩⟩⟩⟩⟩⟩, ⟨⟨fl_13_91, ⟨fl_13_95, ⟨fl_13_106, ⟨fl_13_124, ⟨fl_13_141, ⟨fl_13_178, ⟨fl_13_191, ⟨fl_13_204, ⟨fl_13_208, ⟨fl_13_100, ⟨fl_13_7, ⟨fl_13_111, ⟨fl_13_15, ⟨fl_13_114, ⟨fl_13_20, ⟨fl_13_118, ⟨fl_13_24, ⟨fl_13_121, ⟨fl_13_27, ⟨fl_13_128, ⟨fl_13_30, ⟨fl_13_131, ⟨fl_13_33, ⟨fl_13_134, ⟨fl_13_36, ⟨fl_13_137, ⟨fl_13_39, ⟨fl_13_145, ⟨fl_13_43, ⟨fl_13_148, ⟨fl_13_46, ⟨fl_13_151, ⟨fl_13_49, ⟨fl_13_154, ⟨fl_13_52, ⟨fl_13_157, ⟨fl_13_55, ⟨fl_13_160, ⟨fl_13_58, ⟨fl_13_163, ⟨fl_13_61, ⟨fl_13_166, ⟨fl_13_64, ⟨fl_13_169, ⟨fl_13_67, ⟨fl_13_175, ⟨fl_13_70, ⟨fl_13_182, ⟨fl_13_73, ⟨fl_13_185, ⟨fl_13_76, ⟨fl_13_188, ⟨fl_13_79, ⟨fl_13_195, ⟨fl_13_82, ⟨fl_13_198, ⟨fl_13_85, ⟨fl_13_201, ⟨fl_13_88, ⟨fl_13_94, ⟨fl_13_172, ⟨fl_13_99, ⟨fl_13_105, ⟨fl_13_110, ⟨fl_13_113, ⟨fl_13_117, ⟨fl_13_120, ⟨fl_13_123, ⟨fl_13_127, ⟨fl_13_130, ⟨fl_13_133, ⟨fl_13_136, ⟨fl_13_140, ⟨fl_13_144, ⟨fl_13_147, ⟨fl_13_150, ⟨fl_13_153, ⟨fl_13_156, ⟨fl_13_159, ⟨fl_13_162, ⟨fl_13_165, ⟨fl_13_168, ⟨fl_13_171, ⟨fl_13_177, ⟨fl_13_181, ⟨fl_13_184, ⟨fl_13_187, ⟨fl_13_190, ⟨fl_13_194, ⟨fl_13_197, ⟨fl_13_200, ⟨fl_13_203, ⟨fl_13_207, ⟨fl_13_212, trivial⟩⟩⟩⟩⟩⟩⟩⟩⟩⟩⟩⟩⟩⟩⟩⟩⟩⟩⟩⟩⟩⟩⟩⟩⟩⟩⟩⟩⟩⟩⟩⟩⟩⟩⟩⟩⟩⟩⟩⟩⟩⟩⟩⟩⟩⟩⟩⟩⟩⟩⟩⟩⟩⟩⟩⟩⟩⟩⟩⟩⟩⟩⟩⟩⟩⟩⟩⟩⟩⟩⟩⟩⟩⟩⟩⟩⟩⟩⟩⟩⟩⟩⟩⟩⟩⟩⟩⟩⟩⟩⟩⟩⟩⟩, ⟨trivial, ⟨trivial, ⟨⟨fl_16_335, ⟨fl_16_492, ⟨fl_16_495, ⟨fl_16_1059, trivial⟩⟩⟩⟩, ⟨⟨fl_17_9, trivial⟩, ⟨trivial, trivial⟩⟩⟩⟩⟩⟩⟩⟩⟩⟩⟩⟩⟩⟩⟩⟩⟩⟩⟩) h hk
theorem mm_Fall_ok : mm_Fall 326 := ⟨⟨mm_FN_ok, mm_FA_ok, mm_FF_ok, mm_FC_ok, mm_FK_ok, mm_FJ_ok⟩, mm_FM_ok, mm_FL_ok, mm_FX_ok⟩
