/-! table facts (statements; their proofs: 10.facts) -/
def mm_isRefT (ty : FieldType) : Prop := (∃ C, ty = .object C) ∨ ∃ t, ty = .array t
def mm_kd (kd : Nat) (ty : FieldType) (fin : Bool) : Prop := (kd = 0 ∧ ty = .int ∧ fin = false) ∨ (kd = 1 ∧ ty = .boolean ∧ fin = false) ∨ (kd = 2 ∧ mm_isRefT ty ∧ fin = false) ∨ (kd = 6 ∧ mm_isRefT ty ∧ fin = true)
def mm_FN : Prop := ∀ own i ci N, mm_tab mm_newT own i = some (ci, N) → ∃ r, mm_at mm_cl ci = some r ∧ N = r.2.2 ∧ ci < 13 ∧ Jvm.Cond.classLink (mm_cn own) i r.1 ∈ mm_TW ∧ Jvm.Cond.instantiable r.1 r.2.2 ∈ mm_TW ∧ Jvm.Cond.initialized r.1 ∈ mm_TW
def mm_FA : Prop := ∀ own i t, mm_tab mm_arrT own i = some t → ∃ C, ((t = 103 ∧ C = RX0) ∨ (t = 104 ∧ C = RX8) ∨ (t = 105 ∧ C = "java/lang/String")) ∧ Jvm.Cond.classLink (mm_cn own) i C ∈ mm_TW ∧ Jvm.Cond.arrayOver (.object C) ∈ mm_TW
/-- what a step keeps -/
theorem mm_step_ok {L : Nat} {xs : Nat → Int32} {so : Option Nat} {M : mm_M} {d pc len : Nat} {lo : List (Option Value)} {st : List Value} {H : mm_H} {r : mm_Res} {i : Instr} (hFN : mm_FN) (hFA : mm_FA) (hFf : ∀ own i ci k ne, mm_tab mm_fldT own i = some (ci, k, ne) → ci < 13) (hw : mm_wf L xs so H) (hv : mm_vok (mm_n H) lo st) (h : mm_step M d pc len lo st H i = some r) : mm_rok L xs so lo H r := by
  have hso : ∀ x, so = some x → 1000 ≤ x := fun x e => by
    rcases hw.2.2.2.2.2.2.2.2.1 with z | z
    · rw [z] at e; cases e
    · rw [z] at e; cases e; decide
  have hrf : ∀ (o : Option Nat) (rest : List Value), (∀ x, o = some x → x < mm_n H ∨ 1000 ≤ x) → (∀ v ∈ rest, mm_vv (mm_n H) v) → ∀ v ∈ va_rf o :: rest, mm_vv (mm_n H) v := by
    intro o rest ho hr
    rw [List.forall_mem_cons]
    refine ⟨?_, hr⟩
    cases o with
    | none => exact trivial
    | some x => exact ho x rfl
  cases i with
  | iload k =>
    simp only [mm_step, mm_ldI] at h
    split at h
    · exact mm_rok_nx h hw (mm_vok_st hv (List.forall_mem_cons.mpr ⟨trivial, hv.2⟩))
    · cases h
  | iload_n k =>
    simp only [mm_step, mm_ldI] at h
    split at h
    · exact mm_rok_nx h hw (mm_vok_st hv (List.forall_mem_cons.mpr ⟨trivial, hv.2⟩))
    · cases h
  | lload k =>
    simp only [mm_step, mm_ldL] at h
    split at h
    · exact mm_rok_nx h hw (mm_vok_st hv (List.forall_mem_cons.mpr ⟨trivial, hv.2⟩))
    · cases h
  | lload_n k =>
    simp only [mm_step, mm_ldL] at h
    split at h
    · exact mm_rok_nx h hw (mm_vok_st hv (List.forall_mem_cons.mpr ⟨trivial, hv.2⟩))
    · cases h
  | aload k =>
    simp only [mm_step, mm_ldA] at h
    split at h
    · rename_i x hx
      exact mm_rok_nx h hw (mm_vok_st hv (List.forall_mem_cons.mpr ⟨hv.1 _ _ hx, hv.2⟩))
    · exact mm_rok_nx h hw (mm_vok_st hv (List.forall_mem_cons.mpr ⟨trivial, hv.2⟩))
    · cases h
  | aload_n k =>
    simp only [mm_step, mm_ldA] at h
    split at h
    · rename_i x hx
      exact mm_rok_nx h hw (mm_vok_st hv (List.forall_mem_cons.mpr ⟨hv.1 _ _ hx, hv.2⟩))
    · exact mm_rok_nx h hw (mm_vok_st hv (List.forall_mem_cons.mpr ⟨trivial, hv.2⟩))
    · cases h
  | iconst k =>
    simp only [mm_step] at h
    exact mm_rok_nx h hw (mm_vok_st hv (List.forall_mem_cons.mpr ⟨trivial, hv.2⟩))
  | lconst k =>
    simp only [mm_step] at h
    exact mm_rok_nx h hw (mm_vok_st hv (List.forall_mem_cons.mpr ⟨trivial, hv.2⟩))
  | bipush k =>
    simp only [mm_step] at h
    exact mm_rok_nx h hw (mm_vok_st hv (List.forall_mem_cons.mpr ⟨trivial, hv.2⟩))
  | sipush k =>
    simp only [mm_step] at h
    exact mm_rok_nx h hw (mm_vok_st hv (List.forall_mem_cons.mpr ⟨trivial, hv.2⟩))
  | ldc k =>
    simp only [mm_step] at h
    split at h
    · exact mm_rok_nx h hw (mm_vok_st hv (List.forall_mem_cons.mpr ⟨trivial, hv.2⟩))
    · split at h
      · exact mm_rok_nx h hw (mm_vok_st hv (List.forall_mem_cons.mpr ⟨Or.inr (Nat.le_add_right 1000 _), hv.2⟩))
      · cases h
  | ldc_w k =>
    simp only [mm_step] at h
    split at h
    · exact mm_rok_nx h hw (mm_vok_st hv (List.forall_mem_cons.mpr ⟨trivial, hv.2⟩))
    · split at h
      · exact mm_rok_nx h hw (mm_vok_st hv (List.forall_mem_cons.mpr ⟨Or.inr (Nat.le_add_right 1000 _), hv.2⟩))
      · cases h
  | ldc2_w k =>
    simp only [mm_step] at h
    split at h
    · exact mm_rok_nx h hw (mm_vok_st hv (List.forall_mem_cons.mpr ⟨trivial, hv.2⟩))
    · cases h
  | istore k =>
    simp only [mm_step] at h
    obtain ⟨x, rest, rfl, hz⟩ := mm_i_in h
    exact mm_rok_sto hz hw hv trivial (List.forall_mem_cons.mp hv.2).2
  | istore_n k =>
    simp only [mm_step] at h
    obtain ⟨x, rest, rfl, hz⟩ := mm_i_in h
    exact mm_rok_sto hz hw hv trivial (List.forall_mem_cons.mp hv.2).2
  | astore k =>
    simp only [mm_step] at h
    split at h
    · exact mm_rok_sto h hw hv (List.forall_mem_cons.mp hv.2).1 (List.forall_mem_cons.mp hv.2).2
    · exact mm_rok_sto h hw hv (List.forall_mem_cons.mp hv.2).1 (List.forall_mem_cons.mp hv.2).2
    · cases h
  | astore_n k =>
    simp only [mm_step] at h
    split at h
    · exact mm_rok_sto h hw hv (List.forall_mem_cons.mp hv.2).1 (List.forall_mem_cons.mp hv.2).2
    · exact mm_rok_sto h hw hv (List.forall_mem_cons.mp hv.2).1 (List.forall_mem_cons.mp hv.2).2
    · cases h
  | iinc k n =>
    simp only [mm_step] at h
    split at h
    · split at h
      · exact mm_rok_sto h hw hv trivial hv.2
      · cases h
    · cases h
  | iadd =>
    simp only [mm_step] at h
    obtain ⟨x, y, rest, rfl, hz⟩ := mm_ii_in h
    exact mm_rok_nx hz hw (mm_vok_st hv (List.forall_mem_cons.mpr ⟨trivial, (List.forall_mem_cons.mp (List.forall_mem_cons.mp hv.2).2).2⟩))
  | isub =>
    simp only [mm_step] at h
    obtain ⟨x, y, rest, rfl, hz⟩ := mm_ii_in h
    exact mm_rok_nx hz hw (mm_vok_st hv (List.forall_mem_cons.mpr ⟨trivial, (List.forall_mem_cons.mp (List.forall_mem_cons.mp hv.2).2).2⟩))
  | imul =>
    simp only [mm_step] at h
    obtain ⟨x, y, rest, rfl, hz⟩ := mm_ii_in h
    exact mm_rok_nx hz hw (mm_vok_st hv (List.forall_mem_cons.mpr ⟨trivial, (List.forall_mem_cons.mp (List.forall_mem_cons.mp hv.2).2).2⟩))
  | iand =>
    simp only [mm_step] at h
    obtain ⟨x, y, rest, rfl, hz⟩ := mm_ii_in h
    exact mm_rok_nx hz hw (mm_vok_st hv (List.forall_mem_cons.mpr ⟨trivial, (List.forall_mem_cons.mp (List.forall_mem_cons.mp hv.2).2).2⟩))
  | ior =>
    simp only [mm_step] at h
    obtain ⟨x, y, rest, rfl, hz⟩ := mm_ii_in h
    exact mm_rok_nx hz hw (mm_vok_st hv (List.forall_mem_cons.mpr ⟨trivial, (List.forall_mem_cons.mp (List.forall_mem_cons.mp hv.2).2).2⟩))
  | ixor =>
    simp only [mm_step] at h
    obtain ⟨x, y, rest, rfl, hz⟩ := mm_ii_in h
    exact mm_rok_nx hz hw (mm_vok_st hv (List.forall_mem_cons.mpr ⟨trivial, (List.forall_mem_cons.mp (List.forall_mem_cons.mp hv.2).2).2⟩))
  | ishl =>
    simp only [mm_step] at h
    obtain ⟨x, y, rest, rfl, hz⟩ := mm_ii_in h
    exact mm_rok_nx hz hw (mm_vok_st hv (List.forall_mem_cons.mpr ⟨trivial, (List.forall_mem_cons.mp (List.forall_mem_cons.mp hv.2).2).2⟩))
  | ishr =>
    simp only [mm_step] at h
    obtain ⟨x, y, rest, rfl, hz⟩ := mm_ii_in h
    exact mm_rok_nx hz hw (mm_vok_st hv (List.forall_mem_cons.mpr ⟨trivial, (List.forall_mem_cons.mp (List.forall_mem_cons.mp hv.2).2).2⟩))
  | iushr =>
    simp only [mm_step] at h
    obtain ⟨x, y, rest, rfl, hz⟩ := mm_ii_in h
    exact mm_rok_nx hz hw (mm_vok_st hv (List.forall_mem_cons.mpr ⟨trivial, (List.forall_mem_cons.mp (List.forall_mem_cons.mp hv.2).2).2⟩))
  | idiv =>
    simp only [mm_step] at h
    obtain ⟨x, y, rest, rfl, hz⟩ := mm_ii_in h
    split at hz
    · cases hz
    · exact mm_rok_nx hz hw (mm_vok_st hv (List.forall_mem_cons.mpr ⟨trivial, (List.forall_mem_cons.mp (List.forall_mem_cons.mp hv.2).2).2⟩))
  | irem =>
    simp only [mm_step] at h
    obtain ⟨x, y, rest, rfl, hz⟩ := mm_ii_in h
    split at hz
    · cases hz
    · exact mm_rok_nx hz hw (mm_vok_st hv (List.forall_mem_cons.mpr ⟨trivial, (List.forall_mem_cons.mp (List.forall_mem_cons.mp hv.2).2).2⟩))
  | ineg =>
    simp only [mm_step] at h
    obtain ⟨x, rest, rfl, hz⟩ := mm_i_in h
    exact mm_rok_nx hz hw (mm_vok_st hv (List.forall_mem_cons.mpr ⟨trivial, (List.forall_mem_cons.mp hv.2).2⟩))
  | i2l =>
    simp only [mm_step] at h
    obtain ⟨x, rest, rfl, hz⟩ := mm_i_in h
    exact mm_rok_nx hz hw (mm_vok_st hv (List.forall_mem_cons.mpr ⟨trivial, (List.forall_mem_cons.mp hv.2).2⟩))
  | i2b =>
    simp only [mm_step] at h
    obtain ⟨x, rest, rfl, hz⟩ := mm_i_in h
    exact mm_rok_nx hz hw (mm_vok_st hv (List.forall_mem_cons.mpr ⟨trivial, (List.forall_mem_cons.mp hv.2).2⟩))
  | i2c =>
    simp only [mm_step] at h
    obtain ⟨x, rest, rfl, hz⟩ := mm_i_in h
    exact mm_rok_nx hz hw (mm_vok_st hv (List.forall_mem_cons.mpr ⟨trivial, (List.forall_mem_cons.mp hv.2).2⟩))
  | lcmp =>
    simp only [mm_step] at h
    split at h
    · exact mm_rok_nx h hw (mm_vok_st hv (List.forall_mem_cons.mpr ⟨trivial, (List.forall_mem_cons.mp (List.forall_mem_cons.mp hv.2).2).2⟩))
    · cases h
  | dup =>
    simp only [mm_step] at h
    split at h
    · split at h
      · cases h
      · exact mm_rok_nx h hw (mm_vok_st hv (List.forall_mem_cons.mpr ⟨(List.forall_mem_cons.mp hv.2).1, hv.2⟩))
    · cases h
  | dup2 =>
    simp only [mm_step] at h
    split at h
    · split at h
      · cases h
      · exact mm_rok_nx h hw (mm_vok_st hv (List.forall_mem_cons.mpr ⟨(List.forall_mem_cons.mp hv.2).1, List.forall_mem_cons.mpr ⟨(List.forall_mem_cons.mp (List.forall_mem_cons.mp hv.2).2).1, hv.2⟩⟩))
    · cases h
  | pop =>
    simp only [mm_step] at h
    split at h
    · split at h
      · cases h
      · exact mm_rok_nx h hw (mm_vok_st hv (List.forall_mem_cons.mp hv.2).2)
    · cases h
  | goto off =>
    simp only [mm_step] at h
    exact mm_rok_br h hw hv
  | ifCond cnd off =>
    simp only [mm_step] at h
    obtain ⟨x, rest, rfl, hz⟩ := mm_i_in h
    have h2 := mm_vok_st hv (List.forall_mem_cons.mp hv.2).2
    cases cnd <;> (simp only [] at hz; split at hz <;> first | exact mm_rok_br hz hw h2 | exact mm_rok_nx hz hw h2)
  | if_icmp cnd off =>
    simp only [mm_step] at h
    obtain ⟨x, y, rest, rfl, hz⟩ := mm_ii_in h
    have h2 := mm_vok_st hv (List.forall_mem_cons.mp (List.forall_mem_cons.mp hv.2).2).2
    cases cnd <;> (simp only [] at hz; split at hz <;> first | exact mm_rok_br hz hw h2 | exact mm_rok_nx hz hw h2)
  | ifnull off =>
    simp only [mm_step] at h
    split at h
    · exact mm_rok_br h hw (mm_vok_st hv (List.forall_mem_cons.mp hv.2).2)
    · exact mm_rok_nx h hw (mm_vok_st hv (List.forall_mem_cons.mp hv.2).2)
    · cases h
  | ifnonnull off =>
    simp only [mm_step] at h
    split at h
    · exact mm_rok_nx h hw (mm_vok_st hv (List.forall_mem_cons.mp hv.2).2)
    · exact mm_rok_br h hw (mm_vok_st hv (List.forall_mem_cons.mp hv.2).2)
    · cases h
  | tableswitch dflt a b offs =>
    simp only [mm_step] at h
    obtain ⟨x, rest, rfl, hz⟩ := mm_i_in h
    split at hz
    · exact mm_rok_br hz hw (mm_vok_st hv (List.forall_mem_cons.mp hv.2).2)
    · split at hz
      · exact mm_rok_br hz hw (mm_vok_st hv (List.forall_mem_cons.mp hv.2).2)
      · cases hz
  | getstatic k =>
    simp only [mm_step] at h
    split at h
    · exact mm_rok_nx h hw (mm_vok_st hv (List.forall_mem_cons.mpr ⟨trivial, hv.2⟩))
    · exact mm_rok_nx h hw (mm_vok_st hv (hrf _ _ (fun x e => Or.inr (hso x (by rw [← e]; exact hw.2.2.2.2.2.2.2.1.symm))) hv.2))
    · cases h
  | getfield k =>
    simp only [mm_step] at h
    split at h
    · split at h
      · have h2 := (List.forall_mem_cons.mp hv.2).2
        split at h
        · split at h
          · exact mm_rok_nx h hw (mm_vok_st hv (List.forall_mem_cons.mpr ⟨trivial, h2⟩))
          · exact mm_rok_nx h hw (mm_vok_st hv (List.forall_mem_cons.mpr ⟨trivial, h2⟩))
          · exact mm_rok_nx h hw (mm_vok_st hv (hrf _ _ (fun x e => hw.2.2.2.2.2.2.2.2.2.2.2.2 _ _ x e) h2))
          · cases h
        · cases h
      · cases h
    · split at h
      · split at h
        · have h2 := (List.forall_mem_cons.mp hv.2).2
          have h3 := (List.forall_mem_cons.mp hv.2).1
          split at h
          · rename_i ht
            split at h
            · refine mm_rok_nx h hw (mm_vok_st hv (List.forall_mem_cons.mpr ⟨Or.inr (Nat.le_add_left 1000 _), h2⟩))
            · exact mm_rok_nx h hw (mm_vok_st hv (List.forall_mem_cons.mpr ⟨trivial, h2⟩))
          · cases h
        · cases h
      · cases h
  | putfield k =>
    simp only [mm_step] at h
    split at h
    · cases h
    · rename_i ci kk ne hf
      split at h
      · have h2 := (List.forall_mem_cons.mp (List.forall_mem_cons.mp hv.2).2).2
        split at h
        · rename_i hci
          have hc13 : ci < 13 := hFf _ _ _ _ _ hf
          split at h
          · exact mm_rok_nxH h (mm_wf_wI hw (by omega)) (mm_le.refl H) (mm_vok_st hv h2)
          · split at h
            · exact mm_rok_nxH h (mm_wf_wI hw (by omega)) (mm_le.refl H) (mm_vok_st hv h2)
            · cases h
          · cases h
        · cases h
      · have h1 := (List.forall_mem_cons.mp hv.2).1
        have h2 := (List.forall_mem_cons.mp (List.forall_mem_cons.mp hv.2).2).2
        split at h
        · rename_i hci
          have hc13 : ci < 13 := hFf _ _ _ _ _ hf
          split at h
          · exact mm_rok_nxH h (mm_wf_wR hw (by omega) (mm_wf_lt hw (by omega)) (fun x e => by cases e; exact h1)) (mm_le.refl H) (mm_vok_st hv h2)
          · split at h
            · exact mm_rok_nxH h (mm_wf_wR hw (by omega) (mm_wf_lt hw (by omega)) (fun x e => by cases e; exact h1)) (mm_le.refl H) (mm_vok_st hv h2)
            · cases h
          · cases h
        · cases h
      · cases h
  | iaload =>
    simp only [mm_step] at h
    split at h
    · split at h
      · split at h
        · cases h
        · exact mm_rok_nx h hw (mm_vok_st hv (List.forall_mem_cons.mpr ⟨trivial, (List.forall_mem_cons.mp (List.forall_mem_cons.mp hv.2).2).2⟩))
      · cases h
    · cases h
  | baload =>
    simp only [mm_step] at h
    split at h
    · split at h
      · split at h
        · cases h
        · exact mm_rok_nx h hw (mm_vok_st hv (List.forall_mem_cons.mpr ⟨trivial, (List.forall_mem_cons.mp (List.forall_mem_cons.mp hv.2).2).2⟩))
      · cases h
    · cases h
  | laload =>
    simp only [mm_step] at h
    split at h
    · split at h
      · split at h
        · cases h
        · exact mm_rok_nx h hw (mm_vok_st hv (List.forall_mem_cons.mpr ⟨trivial, (List.forall_mem_cons.mp (List.forall_mem_cons.mp hv.2).2).2⟩))
      · cases h
    · cases h
  | aaload =>
    simp only [mm_step] at h
    split at h
    · split at h
      · split at h
        · cases h
        · exact mm_rok_nx h hw (mm_vok_st hv (hrf _ _ (fun x e => hw.2.2.2.2.2.2.2.2.2.2.2.2 _ _ x e) (List.forall_mem_cons.mp (List.forall_mem_cons.mp hv.2).2).2))
      · cases h
    · cases h
  | iastore =>
    simp only [mm_step] at h
    split at h
    · have h2 := (List.forall_mem_cons.mp (List.forall_mem_cons.mp (List.forall_mem_cons.mp hv.2).2).2).2
      split at h
      · split at h
        · cases h
        · exact mm_rok_nxH h (mm_wf_wI hw (by omega)) (mm_le.refl H) (mm_vok_st hv h2)
      · cases h
    · cases h
  | bastore =>
    simp only [mm_step] at h
    split at h
    · have h2 := (List.forall_mem_cons.mp (List.forall_mem_cons.mp (List.forall_mem_cons.mp hv.2).2).2).2
      split at h
      · split at h
        · cases h
        · exact mm_rok_nxH h (mm_wf_wI hw (by omega)) (mm_le.refl H) (mm_vok_st hv h2)
      · cases h
    · cases h
  | lastore =>
    simp only [mm_step] at h
    split at h
    · have h2 := (List.forall_mem_cons.mp (List.forall_mem_cons.mp (List.forall_mem_cons.mp hv.2).2).2).2
      split at h
      · split at h
        · cases h
        · exact mm_rok_nxH h (mm_wf_wL hw) (mm_le.refl H) (mm_vok_st hv h2)
      · cases h
    · cases h
  | aastore =>
    simp only [mm_step] at h
    split at h
    · rename_i x9 i9 q9 r9
      have h1 := (List.forall_mem_cons.mp hv.2).1
      have h2 := (List.forall_mem_cons.mp (List.forall_mem_cons.mp (List.forall_mem_cons.mp hv.2).2).2).2
      split at h
      · rename_i ht
        split at h
        · cases h
        · have ht2 : (mm_sh H q9).1 < 106 := by
            omega
          exact mm_rok_nxH h (mm_wf_wR hw ht2 (mm_wf_lt hw ht2) (fun x e => by cases e; exact h1)) (mm_le.refl H) (mm_vok_st hv h2)
      · cases h
    · cases h
  | arraylength =>
    simp only [mm_step] at h
    split at h
    · split at h
      · exact mm_rok_nx h hw (mm_vok_st hv (List.forall_mem_cons.mpr ⟨trivial, (List.forall_mem_cons.mp hv.2).2⟩))
      · cases h
    · cases h
  | new k =>
    simp only [mm_step] at h
    split at h
    · rename_i ci N hk
      split at h
      · rename_i hn
        obtain ⟨r0, g1, g2, g3, -⟩ := hFN _ _ _ _ hk
        refine mm_rok_nxH h (mm_wf_new hw hn (Or.inl ⟨g3, r0, g1, g2⟩)) (mm_le_new _ _) (mm_vok_st (mm_vok_mono (Nat.le_succ _) hv) (List.forall_mem_cons.mpr ⟨Or.inl (Nat.lt_succ_self _), (mm_vok_mono (Nat.le_succ _) hv).2⟩))
      · cases h
    · split at h
      · split at h
        · split at h
          · split at h
            · cases h
              exact trivial
            · cases h
          · cases h
        · cases h
      · cases h
  | newarray ty =>
    simp only [mm_step] at h
    obtain ⟨x, rest, rfl, hz⟩ := mm_i_in h
    have h2 := (List.forall_mem_cons.mp hv.2).2
    split at hz
    · cases hz
    · split at hz
      · rename_i hn
        have key : ∀ t, 100 ≤ t → t ≤ 105 → mm_nx (pc + len) lo (.ref (mm_n H) :: rest) (mm_new H t x.toNatClampNeg) = some r → mm_rok L xs so lo H r := fun t t1 t2 hz => mm_rok_nxH hz (mm_wf_new hw hn (Or.inr ⟨t1, t2⟩)) (mm_le_new _ _) (mm_vok_st (mm_vok_mono (Nat.le_succ _) hv) (List.forall_mem_cons.mpr ⟨Or.inl (Nat.lt_succ_self _), fun v hx => mm_vv_mono (Nat.le_succ _) (h2 v hx)⟩))
        split at hz
        · exact key 100 (by decide) (by decide) hz
        · exact key 101 (by decide) (by decide) hz
        · exact key 102 (by decide) (by decide) hz
        · cases hz
      · cases hz
  | anewarray k =>
    simp only [mm_step] at h
    obtain ⟨x, rest, rfl, hz⟩ := mm_i_in h
    have h2 := (List.forall_mem_cons.mp hv.2).2
    split at hz
    · cases hz
    · split at hz
      · rename_i hn
        split at hz
        · rename_i t ht
          obtain ⟨C, g, -⟩ := hFA _ _ _ ht
          exact mm_rok_nxH hz (mm_wf_new hw hn (Or.inr (by omega))) (mm_le_new _ _) (mm_vok_st (mm_vok_mono (Nat.le_succ _) hv) (List.forall_mem_cons.mpr ⟨Or.inl (Nat.lt_succ_self _), fun v hx => mm_vv_mono (Nat.le_succ _) (h2 v hx)⟩))
        · cases hz
      · cases hz
  | invokestatic k =>
    simp only [mm_step] at h
    split at h
    · exact mm_rok_call h hv
    · exact mm_rok_call h hv
    · split at h
      · split at h
        · exact mm_rok_nx h hw (mm_vok_st hv (List.forall_mem_cons.mpr ⟨trivial, (List.forall_mem_cons.mp (List.forall_mem_cons.mp hv.2).2).2⟩))
        · cases h
      · cases h
    · split at h
      · split at h
        · exact mm_rok_nx h hw (mm_vok_st hv (List.forall_mem_cons.mpr ⟨trivial, (List.forall_mem_cons.mp (List.forall_mem_cons.mp hv.2).2).2⟩))
        · cases h
      · cases h
    · cases h
  | invokevirtual k =>
    simp only [mm_step] at h
    split at h
    · exact mm_rok_call h hv
    · exact mm_rok_call h hv
    · cases h
  | invokespecial k =>
    simp only [mm_step] at h
    split at h
    · exact mm_rok_call h hv
    · split at h
      · split at h
        · exact mm_rok_nx h hw (mm_vok_st hv (List.forall_mem_cons.mp hv.2).2)
        · cases h
      · cases h
    · cases h
  | ireturn =>
    simp only [mm_step] at h
    split at h
    · split at h
      · cases h; intro x e; cases e; exact trivial
      · split at h
        · cases h; intro x e; cases e; exact trivial
        · cases h
      · split at h
        · cases h; intro x e; cases e; exact trivial
        · cases h
      · split at h
        · cases h; intro x e; cases e; exact trivial
        · cases h
      · cases h
    · cases h
  | areturn =>
    simp only [mm_step] at h
    split at h
    · split at h
      · cases h; intro x e; cases e; exact (List.forall_mem_cons.mp hv.2).1
      · cases h
    · split at h
      · cases h; intro x e; cases e; exact trivial
      · cases h
    · cases h
  | return_ =>
    simp only [mm_step] at h
    split at h
    · split at h
      · cases h; intro x e; cases e
      · cases h; intro x e; cases e
      · cases h
    · cases h
  | _ => simp only [mm_step] at h; cases h
