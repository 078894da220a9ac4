/-! a step of an instruction that neither calls, makes, nor ends goes on -/
def mm_flow : Instr → Bool
  | .new _ => true
  | .invokestatic _ => true
  | .invokevirtual _ => true
  | .invokespecial _ => true
  | .ireturn => true
  | .areturn => true
  | .return_ => true
  | _ => false
theorem mm_nx_e {pc : Nat} {lo : List (Option Value)} {st : List Value} {H : mm_H} {r : mm_Res} (h : mm_nx pc lo st H = some r) : ∃ q, r = .inl q := by
  unfold mm_nx at h
  cases h
  exact ⟨_, rfl⟩
theorem mm_br_e {pc : Nat} {off : Int} {lo : List (Option Value)} {st : List Value} {H : mm_H} {r : mm_Res} (h : mm_br pc off lo st H = some r) : ∃ q, r = .inl q := by
  unfold mm_br at h
  split at h
  · exact mm_nx_e h
  · cases h
theorem mm_sto_e {pc : Nat} {lo : List (Option Value)} {i : Nat} {v : Value} {st : List Value} {H : mm_H} {r : mm_Res} (h : mm_sto pc lo i v st H = some r) : ∃ q, r = .inl q := by
  unfold mm_sto at h
  split at h
  · cases h
  · split at h
    · exact mm_nx_e h
    · cases h
theorem mm_step_inl {M : mm_M} {d pc len : Nat} {lo : List (Option Value)} {st : List Value} {H : mm_H} {r : mm_Res} {i : Instr} (hi : mm_flow i = false) (h : mm_step M d pc len lo st H i = some r) : ∃ q, r = .inl q := by
  cases i with
  | iload k =>
    simp only [mm_step, mm_ldI] at h
    split at h
    · exact mm_nx_e h
    · cases h
  | iload_n k =>
    simp only [mm_step, mm_ldI] at h
    split at h
    · exact mm_nx_e h
    · cases h
  | lload k =>
    simp only [mm_step, mm_ldL] at h
    split at h
    · exact mm_nx_e h
    · cases h
  | lload_n k =>
    simp only [mm_step, mm_ldL] at h
    split at h
    · exact mm_nx_e h
    · cases h
  | aload k =>
    simp only [mm_step, mm_ldA] at h
    split at h
    · rename_i x hx
      exact mm_nx_e h
    · exact mm_nx_e h
    · cases h
  | aload_n k =>
    simp only [mm_step, mm_ldA] at h
    split at h
    · rename_i x hx
      exact mm_nx_e h
    · exact mm_nx_e h
    · cases h
  | iconst k =>
    simp only [mm_step] at h
    exact mm_nx_e h
  | lconst k =>
    simp only [mm_step] at h
    exact mm_nx_e h
  | bipush k =>
    simp only [mm_step] at h
    exact mm_nx_e h
  | sipush k =>
    simp only [mm_step] at h
    exact mm_nx_e h
  | ldc k =>
    simp only [mm_step] at h
    split at h
    · exact mm_nx_e h
    · split at h
      · exact mm_nx_e h
      · cases h
  | ldc_w k =>
    simp only [mm_step] at h
    split at h
    · exact mm_nx_e h
    · split at h
      · exact mm_nx_e h
      · cases h
  | ldc2_w k =>
    simp only [mm_step] at h
    split at h
    · exact mm_nx_e h
    · cases h
  | istore k =>
    simp only [mm_step] at h
    obtain ⟨x, rest, rfl, hz⟩ := mm_i_in h
    exact mm_sto_e hz
  | istore_n k =>
    simp only [mm_step] at h
    obtain ⟨x, rest, rfl, hz⟩ := mm_i_in h
    exact mm_sto_e hz
  | astore k =>
    simp only [mm_step] at h
    split at h
    · exact mm_sto_e h
    · exact mm_sto_e h
    · cases h
  | astore_n k =>
    simp only [mm_step] at h
    split at h
    · exact mm_sto_e h
    · exact mm_sto_e h
    · cases h
  | iinc k n =>
    simp only [mm_step] at h
    split at h
    · split at h
      · exact mm_sto_e h
      · cases h
    · cases h
  | iadd =>
    simp only [mm_step] at h
    obtain ⟨x, y, rest, rfl, hz⟩ := mm_ii_in h
    exact mm_nx_e hz
  | isub =>
    simp only [mm_step] at h
    obtain ⟨x, y, rest, rfl, hz⟩ := mm_ii_in h
    exact mm_nx_e hz
  | imul =>
    simp only [mm_step] at h
    obtain ⟨x, y, rest, rfl, hz⟩ := mm_ii_in h
    exact mm_nx_e hz
  | iand =>
    simp only [mm_step] at h
    obtain ⟨x, y, rest, rfl, hz⟩ := mm_ii_in h
    exact mm_nx_e hz
  | ior =>
    simp only [mm_step] at h
    obtain ⟨x, y, rest, rfl, hz⟩ := mm_ii_in h
    exact mm_nx_e hz
  | ixor =>
    simp only [mm_step] at h
    obtain ⟨x, y, rest, rfl, hz⟩ := mm_ii_in h
    exact mm_nx_e hz
  | ishl =>
    simp only [mm_step] at h
    obtain ⟨x, y, rest, rfl, hz⟩ := mm_ii_in h
    exact mm_nx_e hz
  | ishr =>
    simp only [mm_step] at h
    obtain ⟨x, y, rest, rfl, hz⟩ := mm_ii_in h
    exact mm_nx_e hz
  | iushr =>
    simp only [mm_step] at h
    obtain ⟨x, y, rest, rfl, hz⟩ := mm_ii_in h
    exact mm_nx_e hz
  | idiv =>
    simp only [mm_step] at h
    obtain ⟨x, y, rest, rfl, hz⟩ := mm_ii_in h
    split at hz
    · cases hz
    · exact mm_nx_e hz
  | irem =>
    simp only [mm_step] at h
    obtain ⟨x, y, rest, rfl, hz⟩ := mm_ii_in h
    split at hz
    · cases hz
    · exact mm_nx_e hz
  | ineg =>
    simp only [mm_step] at h
    obtain ⟨x, rest, rfl, hz⟩ := mm_i_in h
    exact mm_nx_e hz
  | i2l =>
    simp only [mm_step] at h
    obtain ⟨x, rest, rfl, hz⟩ := mm_i_in h
    exact mm_nx_e hz
  | i2b =>
    simp only [mm_step] at h
    obtain ⟨x, rest, rfl, hz⟩ := mm_i_in h
    exact mm_nx_e hz
  | i2c =>
    simp only [mm_step] at h
    obtain ⟨x, rest, rfl, hz⟩ := mm_i_in h
    exact mm_nx_e hz
  | lcmp =>
    simp only [mm_step] at h
    split at h
    · exact mm_nx_e h
    · cases h
  | dup =>
    simp only [mm_step] at h
    split at h
    · split at h
      · cases h
      · exact mm_nx_e h
    · cases h
  | dup2 =>
    simp only [mm_step] at h
    split at h
    · split at h
      · cases h
      · exact mm_nx_e h
    · cases h
  | pop =>
    simp only [mm_step] at h
    split at h
    · split at h
      · cases h
      · exact mm_nx_e h
    · cases h
  | goto off =>
    simp only [mm_step] at h
    exact mm_br_e h
  | ifCond cnd off =>
    simp only [mm_step] at h
    obtain ⟨x, rest, rfl, hz⟩ := mm_i_in h
    cases cnd <;> (simp only [] at hz; split at hz <;> first | exact mm_br_e hz | exact mm_nx_e hz)
  | if_icmp cnd off =>
    simp only [mm_step] at h
    obtain ⟨x, y, rest, rfl, hz⟩ := mm_ii_in h
    cases cnd <;> (simp only [] at hz; split at hz <;> first | exact mm_br_e hz | exact mm_nx_e hz)
  | ifnull off =>
    simp only [mm_step] at h
    split at h
    · exact mm_br_e h
    · exact mm_nx_e h
    · cases h
  | ifnonnull off =>
    simp only [mm_step] at h
    split at h
    · exact mm_nx_e h
    · exact mm_br_e h
    · cases h
  | tableswitch dflt a b offs =>
    simp only [mm_step] at h
    obtain ⟨x, rest, rfl, hz⟩ := mm_i_in h
    split at hz
    · exact mm_br_e hz
    · split at hz
      · exact mm_br_e hz
      · cases hz
  | getstatic k =>
    simp only [mm_step] at h
    split at h
    · exact mm_nx_e h
    · exact mm_nx_e h
    · cases h
  | getfield k =>
    simp only [mm_step] at h
    split at h
    · split at h
      · split at h
        · split at h <;> first | exact mm_nx_e h | (cases h; done)
        · cases h
      · cases h
    · split at h
      · split at h
        · split at h
          · split at h <;> exact mm_nx_e h
          · cases h
        · cases h
      · cases h
  | putfield k =>
    simp only [mm_step] at h
    split at h
    · cases h
    · split at h
      · split at h
        · split at h
          · exact mm_nx_e h
          · split at h <;> first | exact mm_nx_e h | (cases h; done)
          · cases h
        · cases h
      · split at h
        · split at h
          · exact mm_nx_e h
          · split at h <;> first | exact mm_nx_e h | (cases h; done)
          · cases h
        · cases h
      · cases h
  | iaload =>
    simp only [mm_step] at h
    split at h
    · split at h
      · split at h
        · cases h
        · exact mm_nx_e h
      · cases h
    · cases h
  | baload =>
    simp only [mm_step] at h
    split at h
    · split at h
      · split at h
        · cases h
        · exact mm_nx_e h
      · cases h
    · cases h
  | laload =>
    simp only [mm_step] at h
    split at h
    · split at h
      · split at h
        · cases h
        · exact mm_nx_e h
      · cases h
    · cases h
  | aaload =>
    simp only [mm_step] at h
    split at h
    · split at h
      · split at h
        · cases h
        · exact mm_nx_e h
      · cases h
    · cases h
  | iastore =>
    simp only [mm_step] at h
    split at h
    · split at h
      · split at h
        · cases h
        · exact mm_nx_e h
      · cases h
    · cases h
  | bastore =>
    simp only [mm_step] at h
    split at h
    · split at h
      · split at h
        · cases h
        · exact mm_nx_e h
      · cases h
    · cases h
  | lastore =>
    simp only [mm_step] at h
    split at h
    · split at h
      · split at h
        · cases h
        · exact mm_nx_e h
      · cases h
    · cases h
  | aastore =>
    simp only [mm_step] at h
    split at h
    · split at h
      · split at h
        · cases h
        · exact mm_nx_e h
      · cases h
    · cases h
  | arraylength =>
    simp only [mm_step] at h
    split at h
    · split at h
      · exact mm_nx_e h
      · cases h
    · cases h
  | new k =>
    exact absurd hi (by simp [mm_flow])
  | newarray ty =>
    simp only [mm_step] at h
    obtain ⟨x, rest, rfl, hz⟩ := mm_i_in h
    split at hz
    · cases hz
    · split at hz
      · split at hz <;> first | exact mm_nx_e hz | (cases hz; done)
      · cases hz
  | anewarray k =>
    simp only [mm_step] at h
    obtain ⟨x, rest, rfl, hz⟩ := mm_i_in h
    split at hz
    · cases hz
    · split at hz
      · split at hz <;> first | exact mm_nx_e hz | (cases hz; done)
      · cases hz
  | invokestatic k =>
    exact absurd hi (by simp [mm_flow])
  | invokevirtual k =>
    exact absurd hi (by simp [mm_flow])
  | invokespecial k =>
    exact absurd hi (by simp [mm_flow])
  | ireturn =>
    exact absurd hi (by simp [mm_flow])
  | areturn =>
    exact absurd hi (by simp [mm_flow])
  | return_ =>
    exact absurd hi (by simp [mm_flow])
  | _ => simp only [mm_step] at h; cases h
