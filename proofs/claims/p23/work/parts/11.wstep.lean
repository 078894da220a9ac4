/-! THE SOUNDNESS OF A STEP -/
def mm_FF : Prop := ∀ own i ci k ne, mm_tab mm_fldT own i = some (ci, k, ne) → ∃ r, mm_at mm_cl ci = some r ∧ k < r.2.2 ∧ ci < 13 ∧ (r.2.1 k).1 = r.1 ∧ r.1 = mm_cn ci ∧
  ((ne = 0 ∧ Jvm.Cond.fieldLink (mm_cn own) i r.1 (r.2.1 k).2.1 (r.2.1 k).2.2.1 ∈ mm_TW) ∨ (ne = 1 ∧ own ≠ ci ∧ Jvm.Cond.fieldLinkNest (mm_cn own) i r.1 (r.2.1 k).2.1 (r.2.1 k).2.2.1 RX11 ∈ mm_TW)) ∧
  ∃ kd ty, mm_tab mm_ftT ci k = some kd ∧ parseFieldDescriptor (r.2.1 k).2.2.1 = some ty ∧ mm_kd kd ty (r.2.1 k).2.2.2
def mm_FC : Prop := ∀ ci r, mm_at mm_cl ci = some r → (∀ w ∈ u_ws r.1 r.2.1 r.2.2, w ∈ mm_TW) ∧ (∃ ty : Nat → FieldType, (∀ k, k < r.2.2 → parseFieldDescriptor (r.2.1 k).2.2.1 = some (ty k)) ∧ ∀ k, k < r.2.2 → ∃ kd, mm_tab mm_ftT ci k = some kd ∧ mm_kd kd (ty k) (r.2.1 k).2.2.2) ∧ ∀ x, x < r.2.2 → ∀ y, y < r.2.2 → x ≠ y → (r.2.1 x).2.1 ≠ (r.2.1 y).2.1
def mm_FK : Prop := (∀ own i v, mm_tab mm_conT own i = some v → Jvm.Cond.constant (mm_cn own) i v ∈ mm_TW) ∧ (∀ own i v, mm_tab mm_conLT own i = some v → Jvm.Cond.constantLong (mm_cn own) i v ∈ mm_TW) ∧
  (∀ own i k, mm_tab mm_sfT own i = some k → (k = 0 ∧ Jvm.Cond.fieldLink (mm_cn own) i "java/lang/String" "value" "[B" ∈ mm_TW) ∨ (k = 1 ∧ Jvm.Cond.fieldLink (mm_cn own) i "java/lang/String" "coder" "B" ∈ mm_TW)) ∧
  (∀ own i k, mm_tab mm_gsT own i = some k → (k = 0 ∧ Jvm.Cond.fieldLink (mm_cn own) i "java/lang/String" "COMPACT_STRINGS" "Z" ∈ mm_TW) ∨ (k = 1 ∧ Jvm.Cond.fieldLink (mm_cn own) i "jdk/internal/util/Preconditions" "SIOOBE_FORMATTER" "Ljava/util/function/BiFunction;" ∈ mm_TW)) ∧
  (∀ own i j, mm_tab mm_strT own i = some j → j < 28) ∧
  (∀ own i a b c d, mm_tab mm_mthT own i = some (3, a, b, c, d) → Jvm.Cond.methodLink (mm_cn own) i Lib.objectInit ∈ mm_TW) ∧ Jvm.Cond.instanceMethod Lib.objectInit ∈ mm_TW ∧ Jvm.Cond.code Lib.objectInit ⟨#[0xb1]⟩ 1 none ∈ mm_TW ∧
  Jvm.Cond.arrayClass .int ∈ mm_TW ∧ Jvm.Cond.arrayClass .byte ∈ mm_TW ∧ Jvm.Cond.arrayClass .long ∈ mm_TW
theorem mm_cl_get {ci : Nat} {r : vw_C} (h : mm_at mm_cl ci = some r) : mm_cl[ci]? = some (r.1, r.2.1, r.2.2) := by rw [← mm_at_get, h]
theorem mm_fit_ref {ty : FieldType} {x : Nat} (h : mm_isRefT ty) : narrow ty (.ref x) = .ref x ∧ fits ty (.ref x) = true := by
  rcases h with ⟨C, rfl⟩ | ⟨t, rfl⟩ <;> exact ⟨rfl, rfl⟩
theorem mm_fit_bool {x : Int32} (h : x = 0 ∨ x = 1) : narrow .boolean (.int x) = .int x ∧ fits .boolean (.int x) = true := by
  rcases h with rfl | rfl <;> exact ⟨by decide, by decide⟩
theorem mm_ext_refl (n : Nat) (a : Nat → Nat) : mm_ext n a a := fun _ _ => rfl
theorem mm_tr_ext {a b : Nat → Nat} {n : Nat} {v : Value} (h : mm_ext n a b) (hv : mm_vv n v) : mm_tr b v = mm_tr a v := by
  cases v with
  | ref k => exact congrArg Value.ref (h k hv)
  | _ => rfl
theorem mm_map_ext {a b : Nat → Nat} {n : Nat} {st : List Value} (h : mm_ext n a b) (hv : ∀ v ∈ st, mm_vv n v) : st.map (mm_tr b) = st.map (mm_tr a) := List.map_congr_left fun v hx => mm_tr_ext h (hv v hx)
theorem mm_lr_extv {a b : Nat → Nat} {ls : Array Slot} {nL n : Nat} {lo : List (Option Value)} (h : mm_lr a ls nL lo) (he : mm_ext n a b) (hv : ∀ j v, mm_at lo j = some (some v) → mm_vv n v) : mm_lr b ls nL lo :=
  mm_lr_ext h fun j k hk => he k (hv j _ hk)
theorem mm_nx_in {pc : Nat} {lo : List (Option Value)} {st : List Value} {H : mm_H} {q : mm_St} (h : mm_nx pc lo st H = some (.inl q)) : q = (pc, lo, st, H) := by
  unfold mm_nx at h
  cases h
  rfl
theorem mm_br_in {pc : Nat} {off : Int} {lo : List (Option Value)} {st : List Value} {H : mm_H} {q : mm_St} (h : mm_br pc off lo st H = some (.inl q)) : ∃ tgt : Nat, (pc : Int) + off = (tgt : Int) ∧ q = (tgt, lo, st, H) := by
  unfold mm_br at h
  split at h
  · rename_i h0
    exact ⟨_, (Int.toNat_of_nonneg h0).symm, mm_nx_in h⟩
  · cases h
theorem mm_sto_in {pc : Nat} {lo : List (Option Value)} {i : Nat} {v : Value} {st : List Value} {H : mm_H} {q : mm_St} (h : mm_sto pc lo i v st H = some (.inl q)) : mm_lg lo i = false ∧ i < lo.length ∧ q = (pc, mm_set lo i (some v), st, H) := by
  unfold mm_sto at h
  split at h
  · cases h
  · rename_i h1
    split at h
    · rename_i h2
      exact ⟨h1, h2, mm_nx_in h⟩
    · cases h
theorem mm_in_of {i : Int32} {n : Nat} (h : ¬ (i < 0 ∨ n ≤ i.toNatClampNeg)) : vp_in i n := h
theorem mm_assign_refl (vm : Vm) (c : ClassId) : vm.assignable c c = true := by
  show vm.assignableAux _ c c = true
  unfold Vm.assignableAux
  simp
theorem mm_call_inl {H : mm_H} {mi n ci kind : Nat} {thr : Bool} {st : List Value} {q : mm_St} (h : mm_call H mi n ci kind thr st = some (.inl q)) : False := by
  unfold mm_call at h
  split at h
  · cases h
  · split at h
    · split at h <;> cases h
    · split at h
      · split at h <;> cases h
      · cases h
    · split at h
      · split at h <;> cases h
      · cases h
theorem mm_n2 (q : Nat) (h : 2000 ≤ q) (h2 : q < 2028) : ∃ j : Nat, j < 28 ∧ q = 2000 + j := ⟨q - 2000, by omega, by omega⟩
theorem mm_n1 (q : Nat) (h : 1000 ≤ q) (h2 : q < 1028) : ∃ j : Nat, j < 28 ∧ q = 1000 + j ∧ 1000 + j + 1000 = 2000 + j := ⟨q - 1000, by omega, by omega, by omega⟩
/-- a string constant by a wide index -/
theorem mm_ldcSW {p : Program} {l : Launch} {e : Env} {R : Room} {s : State} {m : MethodId} {args : Array Value} {below : List Frame} {meth : Method} {c : Code} {H : Heap} {locs : List Loc} {cells slots : Nat} {Q : State → Prop} {cc : ByteArray} {pc : Nat} {ls : Array Slot} {rest : List Value} (hexec : p.tables.exec = Jvm.exec) (hb : c.code = cc) {own tx : String} {index q : Nat} (hown : s.vm.findClass own = some m.cls) (hZ : vk_R own index tx q s) (hdg : decode cc pc = .ok (.ldc_w index, 3))
    (k : W p l e R s m args below meth c H locs cells slots Q (F0 m (pc + 3) ls (.ref q :: rest))) : W p l e R s m args below meth c H locs cells slots Q (F0 m pc ls rest) := by
  intro T hT X
  obtain ⟨t, a1, b1⟩ := k T hT X
  exact ⟨t, X.ldcStringW hexec hown (text := tx) (a := q) hZ.1 hZ.2 (g := F0 m pc ls rest) rfl (by rw [hb]; exact hdg) t a1, b1⟩
section WSTEP
variable {p : Program} {l : Launch} {e : Env} {R : Room} {s : State} {m : MethodId} {args : Array Value} {below : List Frame} {meth : Method} {c : Code} {Q : State → Prop}
variable {cc : ByteArray} {M : mm_M} {d : Nat} {D : va_G} {cA : Nat → ClassId} {a0 a : Nat → Nat} {base L c0 s0 : Nat} {xs : Nat → Int32} {so : Option Nat}
variable {pc len : Nat} {lo : List (Option Value)} {st : List Value} {H : mm_H} {i : Instr} {Hp : Heap} {locs : List Loc} {ls : Array Slot} {q9 : mm_St}
/-- what a method's walk stands on -/
def mm_Cx (p : Program) (l : Launch) (R : Room) (s : State) (m : MethodId) (args : Array Value) (meth : Method) (c : Code) (cc : ByteArray) (M : mm_M) (d : Nat) (D : va_G) (cA : Nat → ClassId) (a0 : Nat → Nat) (base L : Nat) (xs : Nat → Int32) (so : Option Nat) : Prop :=
  p.tables.exec = Jvm.exec ∧ c.code = cc ∧ c.maxLocals = M.2.1 ∧ s.vm.findClass (mm_cn M.1) = some m.cls ∧ (∀ w ∈ mm_TW, w.before args s = true) ∧ mm_G D cA a0 base L xs so s s.heap ∧ d ≤ R.frames ∧ 40 * d ≤ R.locals ∧ meth.locks = false ∧ l.stackTraces = false ∧ (M.2.2.1 = 4 → meth.name = "<init>")
/-- the facts of the tables -/
def mm_FJ : Prop := (∀ own i a b c d, mm_tab mm_mthT own i = some (4, a, b, c, d) → Jvm.Cond.methodLink (mm_cn own) i Lib.Math.max.name ∈ mm_TW) ∧ (∀ own i a b c d, mm_tab mm_mthT own i = some (5, a, b, c, d) → Jvm.Cond.methodLink (mm_cn own) i Lib.Math.min.name ∈ mm_TW) ∧
  Jvm.Cond.static Lib.Math.max.name ∈ mm_TW ∧ Jvm.Cond.static Lib.Math.min.name ∈ mm_TW ∧ Jvm.Cond.initialized "java/lang/Math" ∈ mm_TW ∧ Jvm.Cond.code Lib.Math.max.name Lib.Math.max.code 2 (some .int) ∈ mm_TW ∧ Jvm.Cond.code Lib.Math.min.name Lib.Math.min.code 2 (some .int) ∈ mm_TW
def mm_Fs : Prop := mm_FN ∧ mm_FA ∧ mm_FF ∧ mm_FC ∧ mm_FK ∧ mm_FJ
/-- what holds of a point of the walk -/
def mm_Pt (s : State) (nL : Nat) (D : va_G) (cA : Nat → ClassId) (a0 a : Nat → Nat) (base L : Nat) (xs : Nat → Int32) (so : Option Nat) (c0 s0 : Nat) (lo : List (Option Value)) (st : List Value) (H : mm_H) (Hp : Heap) (locs : List Loc) (ls : Array Slot) : Prop :=
  mm_wf L xs so H ∧ mm_vok (mm_n H) lo st ∧ mm_ext 0 a0 a ∧ mm_P D cA a base H Hp ∧ va_S (fun q => base ≤ q) s.heap Hp locs ∧ mm_lr a ls nL lo ∧ c0 ≤ mm_nc H ∧ s0 ≤ mm_ns H
theorem mm_ext_trans {n k : Nat} {a b g : Nat → Nat} (h : mm_ext n a b) (h2 : mm_ext k b g) (hk : n ≤ k) : mm_ext n a g := fun q hq => (h2 q (hq.elim (fun z => Or.inl (Nat.lt_of_lt_of_le z hk)) Or.inr)).trans (h q hq)
set_option maxHeartbeats 4000000 in
theorem mm_stepW (hF : mm_Fs) (hC : mm_Cx p l R s m args meth c cc M d D cA a0 base L xs so) (h : mm_step M d pc len lo st H i = some (.inl q9)) (hlen : mm_lenok i len = true) (hbk : mm_brok pc i = true) (hd : decode cc pc = .ok (i, len))
    (hT : mm_Pt s M.2.1 D cA a0 a base L xs so c0 s0 lo st H Hp locs ls) (hcR : mm_nc q9.2.2.2 - c0 ≤ R.cells) (hsR : mm_ns q9.2.2.2 - s0 ≤ R.slots)
    (k : ∀ (b : Nat → Nat) (Hp1 : Heap) (locs1 : List Loc) (ls1 : Array Slot), mm_ext (mm_n H) a b → mm_P D cA b base q9.2.2.2 Hp1 → va_S (fun q => base ≤ q) s.heap Hp1 locs1 → mm_lr b ls1 M.2.1 q9.2.1 →
      W p l e R s m args below meth c Hp1 locs1 (mm_nc q9.2.2.2 - c0) (mm_ns q9.2.2.2 - s0) Q (F0 m q9.1 ls1 (q9.2.2.1.map (mm_tr b)))) :
    W p l e R s m args below meth c Hp locs (mm_nc H - c0) (mm_ns H - s0) Q (F0 m pc ls (st.map (mm_tr a))) := by
  obtain ⟨hx, hb, hml, hown, hts, hG, hRf, hRl, hlk, hst, hini⟩ := hC
  obtain ⟨hFN, hFA, hFF, hFC, hFK, hFJ⟩ := hF
  obtain ⟨hw, hv, he, hP, hS, hl, hc0, hs0⟩ := hT
  have hK := hG.2.1
  have k0 : ∀ {pc1 : Nat} {st1 : List Value}, q9 = (pc1, lo, st1, H) → W p l e R s m args below meth c Hp locs (mm_nc H - c0) (mm_ns H - s0) Q (F0 m pc1 ls (st1.map (mm_tr a))) := by
    intro pc1 st1 e9
    subst e9
    exact k a Hp locs ls (mm_ext_refl _ _) hP hS hl
  cases i with
  | iload j =>
    have hlen : len = 2 := by simpa [mm_lenok] using hlen
    subst hlen
    simp only [mm_step, mm_ldI] at h
    split at h
    · rename_i x hxx
      exact lv_iload hx hb hd (hl.2.2.2 _ _ hxx) (k0 (mm_nx_in h))
    · cases h
  | iload_n j =>
    have hlen : len = 1 := by simpa [mm_lenok] using hlen
    subst hlen
    simp only [mm_step, mm_ldI] at h
    split at h
    · rename_i x hxx
      exact lv_iload_n hx hb hd rfl (hl.2.2.2 _ _ hxx) (k0 (mm_nx_in h))
    · cases h
  | lload j =>
    have hlen : len = 2 := by simpa [mm_lenok] using hlen
    subst hlen
    simp only [mm_step, mm_ldL] at h
    split at h
    · rename_i x hxx
      exact lv_lload hx hb hd (hl.2.2.2 _ _ hxx) (k0 (mm_nx_in h))
    · cases h
  | lload_n j =>
    have hlen : len = 1 := by simpa [mm_lenok] using hlen
    subst hlen
    simp only [mm_step, mm_ldL] at h
    split at h
    · rename_i x hxx
      exact lv_lload_n hx hb hd rfl (hl.2.2.2 _ _ hxx) (k0 (mm_nx_in h))
    · cases h
  | aload j =>
    have hlen : len = 2 := by simpa [mm_lenok] using hlen
    subst hlen
    simp only [mm_step, mm_ldA] at h
    split at h
    · rename_i x hxx
      exact lv_aload hx hb hd (hl.2.2.2 _ _ hxx) (k0 (mm_nx_in h))
    · rename_i hxx
      exact lv_aloadN hx hb hd (hl.2.2.2 _ _ hxx) (k0 (mm_nx_in h))
    · cases h
  | aload_n j =>
    have hlen : len = 1 := by simpa [mm_lenok] using hlen
    subst hlen
    simp only [mm_step, mm_ldA] at h
    split at h
    · rename_i x hxx
      exact lv_aload_n hx hb hd rfl (hl.2.2.2 _ _ hxx) (k0 (mm_nx_in h))
    · rename_i hxx
      exact lv_aload_nN hx hb hd rfl (hl.2.2.2 _ _ hxx) (k0 (mm_nx_in h))
    · cases h
  | iconst j =>
    have hlen : len = 1 := by simpa [mm_lenok] using hlen
    subst hlen
    simp only [mm_step] at h
    exact lv_iconst hx hb hd rfl (k0 (mm_nx_in h))
  | lconst j =>
    have hlen : len = 1 := by simpa [mm_lenok] using hlen
    subst hlen
    simp only [mm_step] at h
    exact lv_lconst hx hb hd rfl (k0 (mm_nx_in h))
  | bipush j =>
    have hlen : len = 2 := by simpa [mm_lenok] using hlen
    subst hlen
    simp only [mm_step] at h
    exact lv_bipush hx hb hd rfl (k0 (mm_nx_in h))
  | sipush j =>
    have hlen : len = 3 := by simpa [mm_lenok] using hlen
    subst hlen
    simp only [mm_step] at h
    exact lv_sipush hx hb hd rfl (k0 (mm_nx_in h))
  | ldc j =>
    have hlen : len = 2 := by simpa [mm_lenok] using hlen
    subst hlen
    simp only [mm_step] at h
    split at h
    · rename_i v hv1
      exact lv_ldc hx hb hown (hts _ (hFK.1 _ _ _ hv1)) hd (k0 (mm_nx_in h))
    · split at h
      · rename_i j1 hj1
        obtain ⟨tx, hR⟩ := hG.2.2.2.2.2.1 _ _ _ hj1
        have kk : W p l e R s m args below meth c Hp locs (mm_nc H - c0) (mm_ns H - s0) Q (F0 m (pc + 2) ls (.ref (a (1000 + j1)) :: st.map (mm_tr a))) := k0 (mm_nx_in h)
        rw [he (1000 + j1) (Or.inr (Nat.le_add_right 1000 _))] at kk
        exact va_ldcS hx hb hown hR hd kk
      · cases h
  | ldc_w j =>
    have hlen : len = 3 := by simpa [mm_lenok] using hlen
    subst hlen
    simp only [mm_step] at h
    split at h
    · rename_i v hv1
      exact lv_ldcw hx hb hown (hts _ (hFK.1 _ _ _ hv1)) hd (k0 (mm_nx_in h))
    · split at h
      · rename_i j1 hj1
        obtain ⟨tx, hR⟩ := hG.2.2.2.2.2.1 _ _ _ hj1
        have kk : W p l e R s m args below meth c Hp locs (mm_nc H - c0) (mm_ns H - s0) Q (F0 m (pc + 3) ls (.ref (a (1000 + j1)) :: st.map (mm_tr a))) := k0 (mm_nx_in h)
        rw [he (1000 + j1) (Or.inr (Nat.le_add_right 1000 _))] at kk
        exact mm_ldcSW hx hb hown hR hd kk
      · cases h
  | ldc2_w j =>
    have hlen : len = 3 := by simpa [mm_lenok] using hlen
    subst hlen
    simp only [mm_step] at h
    split at h
    · rename_i v hv1
      exact lv_ldc2 hx hb hown (hts _ (hFK.2.1 _ _ _ hv1)) hd (k0 (mm_nx_in h))
    · cases h
  | istore j =>
    have hlen : len = 2 := by simpa [mm_lenok] using hlen
    subst hlen
    simp only [mm_step] at h
    obtain ⟨x, rest, rfl, hz⟩ := mm_i_in h
    obtain ⟨g1, g2, rfl⟩ := mm_sto_in hz
    exact lv_istore hx hb hd (mm_lr_has hl) (by rw [← hl.1]; exact g2) rfl (fun ls1 hl1 => k a Hp locs ls1 (mm_ext_refl _ _) hP hS (mm_lr_sto hl g2 g1 (fun z hz => by cases hz; rfl) hl1))
  | istore_n j =>
    have hlen : len = 1 := by simpa [mm_lenok] using hlen
    subst hlen
    simp only [mm_step] at h
    obtain ⟨x, rest, rfl, hz⟩ := mm_i_in h
    obtain ⟨g1, g2, rfl⟩ := mm_sto_in hz
    exact lv_istore_n hx hb hd rfl (mm_lr_has hl) (by rw [← hl.1]; exact g2) rfl (fun ls1 hl1 => k a Hp locs ls1 (mm_ext_refl _ _) hP hS (mm_lr_sto hl g2 g1 (fun z hz => by cases hz; rfl) hl1))
  | astore j =>
    have hlen : len = 2 := by simpa [mm_lenok] using hlen
    subst hlen
    simp only [mm_step] at h
    split at h
    · obtain ⟨g1, g2, rfl⟩ := mm_sto_in h
      exact lv_astore hx hb hd (mm_lr_has hl) (by rw [← hl.1]; exact g2) rfl (fun ls1 hl1 => k a Hp locs ls1 (mm_ext_refl _ _) hP hS (mm_lr_sto hl g2 g1 (fun z hz => by cases hz; rfl) hl1))
    · obtain ⟨g1, g2, rfl⟩ := mm_sto_in h
      exact lv_astoreN hx hb hd (mm_lr_has hl) (by rw [← hl.1]; exact g2) rfl (fun ls1 hl1 => k a Hp locs ls1 (mm_ext_refl _ _) hP hS (mm_lr_sto hl g2 g1 (fun z hz => by cases hz; rfl) hl1))
    · cases h
  | astore_n j =>
    have hlen : len = 1 := by simpa [mm_lenok] using hlen
    subst hlen
    simp only [mm_step] at h
    split at h
    · obtain ⟨g1, g2, rfl⟩ := mm_sto_in h
      exact lv_astore_n hx hb hd rfl (mm_lr_has hl) (by rw [← hl.1]; exact g2) rfl (fun ls1 hl1 => k a Hp locs ls1 (mm_ext_refl _ _) hP hS (mm_lr_sto hl g2 g1 (fun z hz => by cases hz; rfl) hl1))
    · obtain ⟨g1, g2, rfl⟩ := mm_sto_in h
      exact lv_astore_nN hx hb hd rfl (mm_lr_has hl) (by rw [← hl.1]; exact g2) rfl (fun ls1 hl1 => k a Hp locs ls1 (mm_ext_refl _ _) hP hS (mm_lr_sto hl g2 g1 (fun z hz => by cases hz; rfl) hl1))
    · cases h
  | iinc j n =>
    have hlen : len = 3 := by simpa [mm_lenok] using hlen
    subst hlen
    simp only [mm_step] at h
    split at h
    · rename_i x hxx
      obtain ⟨g1, g2, rfl⟩ := mm_sto_in h
      obtain ⟨kk, hkk⟩ := List.getElem?_of_mem (mm_enc_mem.mpr ⟨_, hxx, rfl⟩ : (j, mm_tr a (.int x)) ∈ mm_enc a lo)
      exact lv_iinc hx hb hd (mm_lr_has hl) hkk rfl (by rw [← hl.1]; exact g2) rfl (fun ls1 hl1 => k a Hp locs ls1 (mm_ext_refl _ _) hP hS (mm_lr_sto hl g2 g1 (fun z hz => by cases hz; rfl) hl1))
    · cases h
  | iadd =>
    have hlen : len = 1 := by simpa [mm_lenok] using hlen
    subst hlen
    simp only [mm_step] at h
    obtain ⟨x, y, rest, rfl, hz⟩ := mm_ii_in h
    exact lv_iadd hx hb hd (k0 (mm_nx_in hz))
  | isub =>
    have hlen : len = 1 := by simpa [mm_lenok] using hlen
    subst hlen
    simp only [mm_step] at h
    obtain ⟨x, y, rest, rfl, hz⟩ := mm_ii_in h
    exact lv_isub hx hb hd (k0 (mm_nx_in hz))
  | imul =>
    have hlen : len = 1 := by simpa [mm_lenok] using hlen
    subst hlen
    simp only [mm_step] at h
    obtain ⟨x, y, rest, rfl, hz⟩ := mm_ii_in h
    exact lv_imul hx hb hd (k0 (mm_nx_in hz))
  | iand =>
    have hlen : len = 1 := by simpa [mm_lenok] using hlen
    subst hlen
    simp only [mm_step] at h
    obtain ⟨x, y, rest, rfl, hz⟩ := mm_ii_in h
    exact lv_iand hx hb hd (k0 (mm_nx_in hz))
  | ior =>
    have hlen : len = 1 := by simpa [mm_lenok] using hlen
    subst hlen
    simp only [mm_step] at h
    obtain ⟨x, y, rest, rfl, hz⟩ := mm_ii_in h
    exact lv_ior hx hb hd (k0 (mm_nx_in hz))
  | ixor =>
    have hlen : len = 1 := by simpa [mm_lenok] using hlen
    subst hlen
    simp only [mm_step] at h
    obtain ⟨x, y, rest, rfl, hz⟩ := mm_ii_in h
    exact lv_ixor hx hb hd (k0 (mm_nx_in hz))
  | ishl =>
    have hlen : len = 1 := by simpa [mm_lenok] using hlen
    subst hlen
    simp only [mm_step] at h
    obtain ⟨x, y, rest, rfl, hz⟩ := mm_ii_in h
    exact lv_ishl hx hb hd (k0 (mm_nx_in hz))
  | ishr =>
    have hlen : len = 1 := by simpa [mm_lenok] using hlen
    subst hlen
    simp only [mm_step] at h
    obtain ⟨x, y, rest, rfl, hz⟩ := mm_ii_in h
    exact lv_ishr hx hb hd (k0 (mm_nx_in hz))
  | iushr =>
    have hlen : len = 1 := by simpa [mm_lenok] using hlen
    subst hlen
    simp only [mm_step] at h
    obtain ⟨x, y, rest, rfl, hz⟩ := mm_ii_in h
    exact lv_iushr hx hb hd rfl (k0 (mm_nx_in hz))
  | idiv =>
    have hlen : len = 1 := by simpa [mm_lenok] using hlen
    subst hlen
    simp only [mm_step] at h
    obtain ⟨x, y, rest, rfl, hz⟩ := mm_ii_in h
    split at hz
    · cases hz
    · rename_i hne
      exact lv_idiv hx hb hd hne (k0 (mm_nx_in hz))
  | irem =>
    have hlen : len = 1 := by simpa [mm_lenok] using hlen
    subst hlen
    simp only [mm_step] at h
    obtain ⟨x, y, rest, rfl, hz⟩ := mm_ii_in h
    split at hz
    · cases hz
    · rename_i hne
      exact lv_irem hx hb hd hne (k0 (mm_nx_in hz))
  | ineg =>
    have hlen : len = 1 := by simpa [mm_lenok] using hlen
    subst hlen
    simp only [mm_step] at h
    obtain ⟨x, rest, rfl, hz⟩ := mm_i_in h
    exact lv_ineg hx hb hd (k0 (mm_nx_in hz))
  | i2l =>
    have hlen : len = 1 := by simpa [mm_lenok] using hlen
    subst hlen
    simp only [mm_step] at h
    obtain ⟨x, rest, rfl, hz⟩ := mm_i_in h
    exact lv_i2l hx hb hd rfl (k0 (mm_nx_in hz))
  | i2b =>
    have hlen : len = 1 := by simpa [mm_lenok] using hlen
    subst hlen
    simp only [mm_step] at h
    obtain ⟨x, rest, rfl, hz⟩ := mm_i_in h
    exact lv_i2b hx hb hd rfl (k0 (mm_nx_in hz))
  | i2c =>
    have hlen : len = 1 := by simpa [mm_lenok] using hlen
    subst hlen
    simp only [mm_step] at h
    obtain ⟨x, rest, rfl, hz⟩ := mm_i_in h
    exact lv_i2c hx hb hd rfl (k0 (mm_nx_in hz))
  | lcmp =>
    have hlen : len = 1 := by simpa [mm_lenok] using hlen
    subst hlen
    simp only [mm_step] at h
    split at h
    · exact W.lcmp hx hb hd (k0 (mm_nx_in h))
    · cases h
  | dup =>
    have hlen : len = 1 := by simpa [mm_lenok] using hlen
    subst hlen
    simp only [mm_step] at h
    split at h
    · split at h
      · cases h
      · rename_i v r hne
        exact lv_dup hx hb hd (by rw [mm_tr_cat]; exact mm_long_cat.2 (by simpa using hne)) (k0 (mm_nx_in h))
    · cases h
  | dup2 =>
    have hlen : len = 1 := by simpa [mm_lenok] using hlen
    subst hlen
    simp only [mm_step] at h
    split at h
    · split at h
      · cases h
      · rename_i v w r hne
        have h1 : mm_long v = false := by simpa using fun z => hne (Or.inl z)
        have h2 : mm_long w = false := by simpa using fun z => hne (Or.inr z)
        exact lv_dup2_11 hx hb hd (by rw [mm_tr_cat]; exact mm_long_cat.2 h1) (by rw [mm_tr_cat]; exact mm_long_cat.2 h2) (k0 (mm_nx_in h))
    · cases h
  | pop =>
    have hlen : len = 1 := by simpa [mm_lenok] using hlen
    subst hlen
    simp only [mm_step] at h
    split at h
    · split at h
      · cases h
      · rename_i v r hne
        exact lv_pop hx hb hd (by rw [mm_tr_cat]; exact mm_long_cat.2 (by simpa using hne)) (k0 (mm_nx_in h))
    · cases h
  | goto off =>
    have hlen : len = 3 := by simpa [mm_lenok] using hlen
    subst hlen
    simp only [mm_step] at h
    obtain ⟨tgt, ht, e9⟩ := mm_br_in h
    exact lv_goto hx hb hd ht (k0 e9)
  | ifCond cnd off =>
    have hlen : len = 3 := by simpa [mm_lenok] using hlen
    subst hlen
    simp only [mm_step] at h
    obtain ⟨x, rest, rfl, hz⟩ := mm_i_in h
    cases cnd <;> (dsimp only at hz; split at hz)
    · rename_i hcn
      obtain ⟨tgt, ht, e9⟩ := mm_br_in hz
      exact lv_if_eq hx hb hd ht (fun _ => k0 e9) (fun z => absurd hcn z)
    · rename_i hcn
      obtain ⟨tgt, ht⟩ : ∃ tgt : Nat, (pc : Int) + off = (tgt : Int) := ⟨_, (Int.toNat_of_nonneg (by simpa [mm_brok] using hbk)).symm⟩
      exact lv_if_eq hx hb hd ht (fun z => absurd z hcn) (fun _ => k0 (mm_nx_in hz))
    · rename_i hcn
      obtain ⟨tgt, ht⟩ : ∃ tgt : Nat, (pc : Int) + off = (tgt : Int) := ⟨_, (Int.toNat_of_nonneg (by simpa [mm_brok] using hbk)).symm⟩
      exact lv_if_ne hx hb hd ht (fun z => absurd hcn z) (fun _ => k0 (mm_nx_in hz))
    · rename_i hcn
      obtain ⟨tgt, ht, e9⟩ := mm_br_in hz
      exact lv_if_ne hx hb hd ht (fun _ => k0 e9) (fun z => absurd z hcn)
    · rename_i hcn
      obtain ⟨tgt, ht, e9⟩ := mm_br_in hz
      exact lv_if_lt hx hb hd ht (fun _ => k0 e9) (fun z => absurd hcn z)
    · rename_i hcn
      obtain ⟨tgt, ht⟩ : ∃ tgt : Nat, (pc : Int) + off = (tgt : Int) := ⟨_, (Int.toNat_of_nonneg (by simpa [mm_brok] using hbk)).symm⟩
      exact lv_if_lt hx hb hd ht (fun z => absurd z hcn) (fun _ => k0 (mm_nx_in hz))
    · rename_i hcn
      obtain ⟨tgt, ht, e9⟩ := mm_br_in hz
      exact lv_if_ge hx hb hd ht (fun _ => k0 e9) (fun z => absurd hcn z)
    · rename_i hcn
      obtain ⟨tgt, ht⟩ : ∃ tgt : Nat, (pc : Int) + off = (tgt : Int) := ⟨_, (Int.toNat_of_nonneg (by simpa [mm_brok] using hbk)).symm⟩
      exact lv_if_ge hx hb hd ht (fun z => absurd z hcn) (fun _ => k0 (mm_nx_in hz))
    · rename_i hcn
      obtain ⟨tgt, ht, e9⟩ := mm_br_in hz
      exact lv_if_gt hx hb hd ht (fun _ => k0 e9) (fun z => absurd hcn z)
    · rename_i hcn
      obtain ⟨tgt, ht⟩ : ∃ tgt : Nat, (pc : Int) + off = (tgt : Int) := ⟨_, (Int.toNat_of_nonneg (by simpa [mm_brok] using hbk)).symm⟩
      exact lv_if_gt hx hb hd ht (fun z => absurd z hcn) (fun _ => k0 (mm_nx_in hz))
    · rename_i hcn
      obtain ⟨tgt, ht, e9⟩ := mm_br_in hz
      exact lv_if_le hx hb hd ht (fun _ => k0 e9) (fun z => absurd hcn z)
    · rename_i hcn
      obtain ⟨tgt, ht⟩ : ∃ tgt : Nat, (pc : Int) + off = (tgt : Int) := ⟨_, (Int.toNat_of_nonneg (by simpa [mm_brok] using hbk)).symm⟩
      exact lv_if_le hx hb hd ht (fun z => absurd z hcn) (fun _ => k0 (mm_nx_in hz))
  | if_icmp cnd off =>
    have hlen : len = 3 := by simpa [mm_lenok] using hlen
    subst hlen
    simp only [mm_step] at h
    obtain ⟨x, y, rest, rfl, hz⟩ := mm_ii_in h
    cases cnd <;> (dsimp only at hz; split at hz)
    · rename_i hcn
      obtain ⟨tgt, ht, e9⟩ := mm_br_in hz
      exact lv_icmp_eq hx hb hd ht (fun _ => k0 e9) (fun z => absurd hcn z)
    · rename_i hcn
      obtain ⟨tgt, ht⟩ : ∃ tgt : Nat, (pc : Int) + off = (tgt : Int) := ⟨_, (Int.toNat_of_nonneg (by simpa [mm_brok] using hbk)).symm⟩
      exact lv_icmp_eq hx hb hd ht (fun z => absurd z hcn) (fun _ => k0 (mm_nx_in hz))
    · rename_i hcn
      obtain ⟨tgt, ht⟩ : ∃ tgt : Nat, (pc : Int) + off = (tgt : Int) := ⟨_, (Int.toNat_of_nonneg (by simpa [mm_brok] using hbk)).symm⟩
      exact lv_icmp_ne hx hb hd ht (fun z => absurd hcn z) (fun _ => k0 (mm_nx_in hz))
    · rename_i hcn
      obtain ⟨tgt, ht, e9⟩ := mm_br_in hz
      exact lv_icmp_ne hx hb hd ht (fun _ => k0 e9) (fun z => absurd z hcn)
    · rename_i hcn
      obtain ⟨tgt, ht, e9⟩ := mm_br_in hz
      exact lv_icmp_lt hx hb hd ht (fun _ => k0 e9) (fun z => absurd hcn z)
    · rename_i hcn
      obtain ⟨tgt, ht⟩ : ∃ tgt : Nat, (pc : Int) + off = (tgt : Int) := ⟨_, (Int.toNat_of_nonneg (by simpa [mm_brok] using hbk)).symm⟩
      exact lv_icmp_lt hx hb hd ht (fun z => absurd z hcn) (fun _ => k0 (mm_nx_in hz))
    · rename_i hcn
      obtain ⟨tgt, ht, e9⟩ := mm_br_in hz
      exact lv_icmp_ge hx hb hd ht (fun _ => k0 e9) (fun z => absurd hcn z)
    · rename_i hcn
      obtain ⟨tgt, ht⟩ : ∃ tgt : Nat, (pc : Int) + off = (tgt : Int) := ⟨_, (Int.toNat_of_nonneg (by simpa [mm_brok] using hbk)).symm⟩
      exact lv_icmp_ge hx hb hd ht (fun z => absurd z hcn) (fun _ => k0 (mm_nx_in hz))
    · rename_i hcn
      obtain ⟨tgt, ht, e9⟩ := mm_br_in hz
      exact lv_icmp_gt hx hb hd ht (fun _ => k0 e9) (fun z => absurd hcn z)
    · rename_i hcn
      obtain ⟨tgt, ht⟩ : ∃ tgt : Nat, (pc : Int) + off = (tgt : Int) := ⟨_, (Int.toNat_of_nonneg (by simpa [mm_brok] using hbk)).symm⟩
      exact lv_icmp_gt hx hb hd ht (fun z => absurd z hcn) (fun _ => k0 (mm_nx_in hz))
    · rename_i hcn
      obtain ⟨tgt, ht, e9⟩ := mm_br_in hz
      exact lv_icmp_le hx hb hd ht (fun _ => k0 e9) (fun z => absurd hcn z)
    · rename_i hcn
      obtain ⟨tgt, ht⟩ : ∃ tgt : Nat, (pc : Int) + off = (tgt : Int) := ⟨_, (Int.toNat_of_nonneg (by simpa [mm_brok] using hbk)).symm⟩
      exact lv_icmp_le hx hb hd ht (fun z => absurd z hcn) (fun _ => k0 (mm_nx_in hz))
  | ifnull off =>
    have hlen : len = 3 := by simpa [mm_lenok] using hlen
    subst hlen
    simp only [mm_step] at h
    split at h
    · obtain ⟨tgt, ht, e9⟩ := mm_br_in h
      exact lv_ifnullN hx hb hd ht (k0 e9)
    · exact lv_ifnull hx hb hd (k0 (mm_nx_in h))
    · cases h
  | ifnonnull off =>
    have hlen : len = 3 := by simpa [mm_lenok] using hlen
    subst hlen
    simp only [mm_step] at h
    split at h
    · exact lv_ifnonnullN hx hb hd (k0 (mm_nx_in h))
    · obtain ⟨tgt, ht, e9⟩ := mm_br_in h
      exact lv_ifnonnull hx hb hd ht (k0 e9)
    · cases h
  | tableswitch dflt x1 x2 offs =>
    simp only [mm_step] at h
    obtain ⟨x, rest, rfl, hz⟩ := mm_i_in h
    split at hz
    · rename_i hcn
      obtain ⟨tgt, ht, e9⟩ := mm_br_in hz
      exact lv_tableOut hx hb hd hcn ht (k0 e9)
    · rename_i hcn
      split at hz
      · rename_i off ho
        obtain ⟨tgt, ht, e9⟩ := mm_br_in hz
        exact lv_tableIn hx hb hd (fun z => hcn (Or.inl z)) (fun z => hcn (Or.inr z)) ho ht (k0 e9)
      · cases hz
  | getstatic j =>
    have hlen : len = 3 := by simpa [mm_lenok] using hlen
    subst hlen
    simp only [mm_step] at h
    split at h
    · rename_i hj
      rcases hFK.2.2.2.1 _ _ _ hj with ⟨-, hwd⟩ | ⟨z, -⟩
      · exact va_gets hx hb hG.2.2.2.1.1 hS hown (hts _ hwd) (fun _ z => z) hd (k0 (mm_nx_in h))
      · cases z
    · rename_i k1 hk1 hj
      rcases hFK.2.2.2.1 _ _ _ hj with ⟨z, -⟩ | ⟨-, hwd⟩
      · exact absurd z hk1
      · have e1 : mm_tr a0 (va_rf so) = mm_tr a (va_rf (mm_R H 4000 0)) := by
          rw [hw.2.2.2.2.2.2.2.1]
          rcases hw.2.2.2.2.2.2.2.2.1 with z | z
          · rw [z]; rfl
          · rw [z]
            exact congrArg Value.ref (he 4001 (Or.inr (by decide))).symm
        exact va_gets hx hb (e1 ▸ hG.2.2.2.1.2) hS hown (hts _ hwd) (fun _ z => z) hd (k0 (mm_nx_in h))
    · cases h
  | getfield j =>
    have hlen : len = 3 := by simpa [mm_lenok] using hlen
    subst hlen
    simp only [mm_step] at h
    split at h
    · rename_i ci kf ne hf
      obtain ⟨r0, f1, f2, f3, f4, f5, f6, kd, ty, f7, f8, f9⟩ := hFF _ _ _ _ _ hf
      split at h
      · rename_i q r
        split at h
        · rename_i hci
          have hlt : q < mm_n H := mm_wf_lt hw (by omega)
          have hsz : (mm_sh H q).2 = r0.2.2 := by
            rcases hw.2.2.2.1 q hlt with ⟨-, r1, g1, g2⟩ | ⟨z, -⟩
            · rw [hci, f1] at g1
              cases g1
              exact g2
            · omega
          have hcell : (mm_ws a cA H)[q]? = some (a q, .inr (ci, mm_fs a H q ci r0.2.2)) := by
            rw [mm_ws_get hlt, mm_cell_obj (by omega), hci, hsz]
          have hget : ∀ v, (mm_fs a H q ci r0.2.2)[kf]? = some v → W p l e R s m args below meth c Hp locs (mm_nc H - c0) (mm_ns H - s0) Q (F0 m (pc + 3) ls (v :: r.map (mm_tr a))) → W p l e R s m args below meth c Hp locs (mm_nc H - c0) (mm_ns H - s0) Q (F0 m pc ls (.ref (a q) :: r.map (mm_tr a))) := by
            intro v hv1 kk
            rcases f6 with ⟨-, hwd⟩ | ⟨-, -, hwd⟩
            · exact va_get (D := D) (tys := mm_tys cA) (ws := mm_ws a cA H) hx hb hts (hFC _ _ f1).1 hown hK hP.1 q hcell (mm_cl_get f1) kf f2 (hts _ hwd) (fun x h9 => by rw [f4] at h9; exact h9) hv1 hd kk
            · exact va_getN (D := D) (tys := mm_tys cA) (ws := mm_ws a cA H) hx hb hts (hFC _ _ f1).1 hown hK hP.1 q hcell (mm_cl_get f1) kf f2 (hts _ hwd) (fun x h9 => by rw [f4] at h9; exact h9) hv1 hd kk
          have hv2 := mm_fs_get (a := a) (H := H) (q := q) (ci := ci) f2
          split at h
          · rename_i hk1
            rw [hk1] at hv2
            exact hget _ hv2 (k0 (mm_nx_in h))
          · rename_i hk1
            rw [hk1] at hv2
            exact hget _ hv2 (k0 (mm_nx_in h))
          · rename_i kd1 n0 n1 hk1
            rw [hk1] at hv2
            have e2 : mm_fv a H q kf (some kd1) = mm_tr a (va_rf (mm_R H q kf)) := by
              unfold mm_fv
              split
              · rename_i z; cases z; exact absurd rfl n0
              · rename_i z; cases z; exact absurd rfl n1
              · rfl
            rw [e2] at hv2
            exact hget _ hv2 (k0 (mm_nx_in h))
          · cases h
        · cases h
      · cases h
    · split at h
      · rename_i k1 hk1
        split at h
        · rename_i q r
          split at h
          · rename_i hci
            have hq : 1000 ≤ q ∧ q < 1028 := by
              have h9 : 1000 ≤ q := by
                rcases Nat.lt_or_ge q 1000 with z | z
                · exfalso
                  rcases Nat.lt_or_ge q (mm_n H) with y | y
                  · rcases hw.2.2.2.1 q y with ⟨g, -⟩ | ⟨g1, g2⟩ <;> omega
                  · have := hw.2.1 q y z; omega
                · exact z
              exact ⟨h9, hw.2.2.2.2.2.2.2.2.2.1 q h9 hci⟩
            obtain ⟨j1, hj1, rfl, e1⟩ := mm_n1 q hq.1 hq.2
            obtain ⟨g1, g2, g3, g4⟩ := hG.2.2.2.2.1 j1 hj1
            have ea : a (1000 + j1) = a0 (1000 + j1) := he _ (Or.inr (Nat.le_add_right 1000 _))
            have eb : a (1000 + j1 + 1000) = a0 (2000 + j1) := by
              rw [e1]
              exact he _ (Or.inr (Nat.le_trans (by decide) (Nat.le_add_right 2000 _)))
            split at h
            · rcases hFK.2.2.1 _ _ _ hk1 with ⟨-, hwd⟩ | ⟨z, -⟩
              · have kk := k0 (mm_nx_in h)
                have kk : W p l e R s m args below meth c Hp locs (mm_nc H - c0) (mm_ns H - s0) Q (F0 m (pc + 3) ls (.ref (a (1000 + j1 + 1000)) :: r.map (mm_tr a))) := kk
                rw [eb] at kk
                have r9 := vk_getf hx hb g3 hS hown (hts _ hwd) (fun _ z => z) hd kk
                rw [← ea] at r9
                exact r9
              · cases z
            · rename_i n0
              rcases hFK.2.2.1 _ _ _ hk1 with ⟨z, -⟩ | ⟨-, hwd⟩
              · exact absurd z n0
              · have r9 := vk_getf hx hb g2 hS hown (hts _ hwd) (fun _ z => z) hd (k0 (mm_nx_in h))
                rw [← ea] at r9
                exact r9
          · cases h
        · cases h
      · cases h
  | putfield j =>
    have hlen : len = 3 := by simpa [mm_lenok] using hlen
    subst hlen
    simp only [mm_step] at h
    split at h
    · cases h
    · rename_i ci kf ne hf
      obtain ⟨r0, f1, f2, f3, f4, f5, f6, kd, ty, f7, f8, f9⟩ := hFF _ _ _ _ _ hf
      have main : ∀ (q : Nat) (r : List Value) (v : Value) (H1 : mm_H), (mm_sh H q).1 = ci → q9 = (pc + 3, lo, r, H1) → mm_nc H1 = mm_nc H → mm_ns H1 = mm_ns H → narrow ty v = v → fits ty v = true → ((r0.2.1 kf).2.2.2 = true → M.2.2.1 = 4 ∧ M.1 = ci) → mm_n H1 = mm_n H →
          (∀ fs, fs = mm_fs a H q ci r0.2.2 → (mm_ws a cA H).set q (a q, .inr (ci, fs.set kf v)) = mm_ws a cA H1) → W p l e R s m args below meth c Hp locs (mm_nc H - c0) (mm_ns H - s0) Q (F0 m pc ls (v :: .ref (a q) :: r.map (mm_tr a))) := by
        intro q r v H1 hci e9 en1 en2 hn1 hf1 hfin hnn hset
        subst e9
        have hlt : q < mm_n H := mm_wf_lt hw (by omega)
        have hsz : (mm_sh H q).2 = r0.2.2 := by
          rcases hw.2.2.2.1 q hlt with ⟨-, r1, g1, g2⟩ | ⟨z, -⟩
          · rw [hci, f1] at g1
            cases g1
            exact g2
          · omega
        have hcell : (mm_ws a cA H)[q]? = some (a q, .inr (ci, mm_fs a H q ci r0.2.2)) := by
          rw [mm_ws_get hlt, mm_cell_obj (by omega), hci, hsz]
        obtain ⟨hu, ⟨tys, ht1, ht2⟩, hnm⟩ := hFC _ _ f1
        have kk : ∀ (Hq : Heap) (locsq : List Loc), va_P D mm_cl ((mm_ws a cA H).set q (a q, .inr (ci, (mm_fs a H q ci r0.2.2).set kf v))) Hq → va_D (fun q => base ≤ q) ((mm_ws a cA H).set q (a q, .inr (ci, (mm_fs a H q ci r0.2.2).set kf v))) → va_S (fun q => base ≤ q) s.heap Hq locsq → W p l e R s m args below meth c Hq locsq (mm_nc H - c0) (mm_ns H - s0) Q (F0 m (pc + 3) ls (r.map (mm_tr a))) := by
          intro Hq locsq k1 k2 k3
          rw [hset _ rfl] at k1 k2
          have := k a Hq locsq ls (mm_ext_refl _ _) ⟨k1, k2⟩ k3 hl
          dsimp only at this
          rw [en1, en2] at this
          exact this
        by_cases hfi : (r0.2.1 kf).2.2.2 = true
        · obtain ⟨m1, m2⟩ := hfin hfi
          rcases f6 with ⟨-, hwd⟩ | ⟨-, z, -⟩
          · exact va_putF (D := D) (tys := mm_tys cA) (ws := mm_ws a cA H) hx hb hts hu tys ht1 hnm hown hK hP.1 hP.2 hS q hcell (mm_cl_get f1) kf f2 (hts _ hwd) (fun x h9 => by rw [f4] at h9; exact h9) hfi (hini m1) (by rw [f4, f5, m2]) f8 hn1 hf1 (by rw [mm_fs_len]; exact f2) hd kk
          · exact absurd m2 z
        · have hfi2 : (r0.2.1 kf).2.2.2 = false := by simpa using hfi
          rcases f6 with ⟨-, hwd⟩ | ⟨-, -, hwd⟩
          · exact va_put (D := D) (tys := mm_tys cA) (ws := mm_ws a cA H) hx hb hts hu tys ht1 hnm hown hK hP.1 hP.2 hS q hcell (mm_cl_get f1) kf f2 (hts _ hwd) (fun x h9 => by rw [f4] at h9; exact h9) hfi2 f8 hn1 hf1 (by rw [mm_fs_len]; exact f2) hd kk
          · exact va_putN (D := D) (tys := mm_tys cA) (ws := mm_ws a cA H) hx hb hts hu tys ht1 hnm hown hK hP.1 hP.2 hS q hcell (mm_cl_get f1) kf f2 (hts _ hwd) (fun x h9 => by rw [f4] at h9; exact h9) hfi2 f8 hn1 hf1 (by rw [mm_fs_len]; exact f2) hd kk
      have hsetI : ∀ (q : Nat) (x : Int32), (mm_sh H q).1 = ci → kd = 0 ∨ kd = 1 → ∀ fs, fs = mm_fs a H q ci r0.2.2 → (mm_ws a cA H).set q (a q, .inr (ci, fs.set kf (.int x))) = mm_ws a cA (mm_wI H q kf x) := by
        intro q x hci hkd fs e
        subst e
        have hlt : q < mm_n H := mm_wf_lt hw (by omega)
        have hsz : (mm_sh H q).2 = r0.2.2 := by
          rcases hw.2.2.2.1 q hlt with ⟨-, r1, g1, g2⟩ | ⟨z, -⟩
          · rw [hci, f1] at g1
            cases g1
            exact g2
          · omega
        have e1 : (mm_fs a H q ci r0.2.2).set kf (.int x) = mm_fs a (mm_wI H q kf x) q ci r0.2.2 := mm_fs_set (by
          rw [f7]
          rcases hkd with rfl | rfl <;> simp [mm_fv, mm_I, mm_wI, mm_u2]) (fun j1 ty1 hj1 => by
          unfold mm_fv
          split <;> simp [mm_I, mm_R, mm_wI, mm_u2, hj1])
        have e2 : mm_cell a cA (mm_wI H q kf x) q = .inr (ci, mm_fs a (mm_wI H q kf x) q ci r0.2.2) := by
          rw [mm_cell_obj (by show (mm_sh H q).1 < 13; omega)]
          show Sum.inr ((mm_sh H q).1, mm_fs a (mm_wI H q kf x) q (mm_sh H q).1 (mm_sh H q).2) = _
          rw [hci, hsz]
        rw [e1, ← e2]
        exact mm_ws_wI
      have hsetR : ∀ (q x : Nat), (mm_sh H q).1 = ci → kd = 2 ∨ kd = 6 → ∀ fs, fs = mm_fs a H q ci r0.2.2 → (mm_ws a cA H).set q (a q, .inr (ci, fs.set kf (.ref (a x)))) = mm_ws a cA (mm_wR H q kf (some x)) := by
        intro q x hci hkd fs e
        subst e
        have hlt : q < mm_n H := mm_wf_lt hw (by omega)
        have hsz : (mm_sh H q).2 = r0.2.2 := by
          rcases hw.2.2.2.1 q hlt with ⟨-, r1, g1, g2⟩ | ⟨z, -⟩
          · rw [hci, f1] at g1
            cases g1
            exact g2
          · omega
        have e1 : (mm_fs a H q ci r0.2.2).set kf (.ref (a x)) = mm_fs a (mm_wR H q kf (some x)) q ci r0.2.2 := mm_fs_set (by
          rw [f7]
          rcases hkd with rfl | rfl <;> simp [mm_fv, mm_R, mm_wR, mm_u2, va_rf, mm_tr]) (fun j1 ty1 hj1 => by
          unfold mm_fv
          split <;> simp [mm_I, mm_R, mm_wR, mm_u2, hj1])
        have e2 : mm_cell a cA (mm_wR H q kf (some x)) q = .inr (ci, mm_fs a (mm_wR H q kf (some x)) q ci r0.2.2) := by
          rw [mm_cell_obj (by show (mm_sh H q).1 < 13; omega)]
          show Sum.inr ((mm_sh H q).1, mm_fs a (mm_wR H q kf (some x)) q (mm_sh H q).1 (mm_sh H q).2) = _
          rw [hci, hsz]
        rw [e1, ← e2]
        exact mm_ws_wR
      split at h
      · rename_i x q r
        split at h
        · rename_i hci
          split at h
          · rename_i hk1
            rw [f7] at hk1
            cases hk1
            rcases f9 with ⟨-, rfl, ff⟩ | ⟨z, -⟩ | ⟨z, -⟩ | ⟨z, -⟩ <;> first | (cases z; done) | skip
            exact main q r (.int x) _ hci (mm_nx_in h) rfl rfl rfl rfl (fun z => by rw [ff] at z; cases z) rfl (hsetI q x hci (Or.inl rfl))
          · rename_i hk1
            rw [f7] at hk1
            cases hk1
            split at h
            · rename_i hb1
              rcases f9 with ⟨z, -⟩ | ⟨-, rfl, ff⟩ | ⟨z, -⟩ | ⟨z, -⟩ <;> first | (cases z; done) | skip
              exact main q r (.int x) _ hci (mm_nx_in h) rfl rfl (mm_fit_bool hb1).1 (mm_fit_bool hb1).2 (fun z => by rw [ff] at z; cases z) rfl (hsetI q x hci (Or.inr rfl))
            · cases h
          · cases h
        · cases h
      · rename_i x q r
        split at h
        · rename_i hci
          split at h
          · rename_i hk1
            rw [f7] at hk1
            cases hk1
            rcases f9 with ⟨z, -⟩ | ⟨z, -⟩ | ⟨-, fr, ff⟩ | ⟨z, -⟩ <;> first | (cases z; done) | skip
            exact main q r (.ref (a x)) _ hci (mm_nx_in h) rfl rfl (mm_fit_ref fr).1 (mm_fit_ref fr).2 (fun z => by rw [ff] at z; cases z) rfl (hsetR q x hci (Or.inl rfl))
          · rename_i hk1
            rw [f7] at hk1
            cases hk1
            split at h
            · rename_i hb1
              rcases f9 with ⟨z, -⟩ | ⟨z, -⟩ | ⟨z, -⟩ | ⟨-, fr, ff⟩ <;> first | (cases z; done) | skip
              exact main q r (.ref (a x)) _ hci (mm_nx_in h) rfl rfl (mm_fit_ref fr).1 (mm_fit_ref fr).2 (fun _ => hb1) rfl (hsetR q x hci (Or.inr rfl))
            · cases h
          · cases h
        · cases h
      · cases h
  | iaload =>
    have hlen : len = 1 := by simpa [mm_lenok] using hlen
    subst hlen
    simp only [mm_step] at h
    split at h
    · rename_i i1 q r
      split at h
      · rename_i ht
        split at h
        · cases h
        · rename_i hin
          rcases ht with ht | ht
          · have hlt : q < mm_n H := mm_wf_lt hw (by omega)
            exact va_iald (D := D) (tys := mm_tys cA) (ws := mm_ws a cA H) hx hb hK hP.1 q 0 (by rw [mm_ws_get hlt, mm_cell_int (Or.inl ht), ht]) rfl hin hd (k0 (mm_nx_in h))
          · have hq : q = 5000 := hw.2.2.2.2.2.2.2.2.2.2.2.1 q ht
            subst hq
            have e5 : a 5000 = a0 5000 := he 5000 (Or.inr (by decide))
            have hX := hG.2.2.2.2.2.2.1
            have hbl := hG.2.2.2.2.2.2.2.1
            have r9 := va_sld (A := fun q => base ≤ q) hx hb hX (by have := hG.1; omega) (by omega) hS (i := i1) (by rw [hw.2.2.2.2.2.1] at hin; exact hin) hd (by
              have kk := k0 (mm_nx_in h)
              have kk : W p l e R s m args below meth c Hp locs (mm_nc H - c0) (mm_ns H - s0) Q (F0 m (pc + 1) ls (.int (mm_I H 5000 i1.toNatClampNeg) :: r.map (mm_tr a))) := kk
              rw [hw.2.2.2.2.2.2.1] at kk
              exact kk)
            rw [← e5] at r9
            exact r9
      · cases h
    · cases h
  | baload =>
    have hlen : len = 1 := by simpa [mm_lenok] using hlen
    subst hlen
    simp only [mm_step] at h
    split at h
    · rename_i i1 q r
      split at h
      · rename_i ht
        split at h
        · cases h
        · rename_i hin
          rcases ht with ht | ht
          · have hlt : q < mm_n H := mm_wf_lt hw (by omega)
            exact va_bald (D := D) (tys := mm_tys cA) (ws := mm_ws a cA H) hx hb hK hP.1 q 1 (by rw [mm_ws_get hlt, mm_cell_int (Or.inr ht), ht]) rfl hin hd (k0 (mm_nx_in h))
          · obtain ⟨q1, q2⟩ := hw.2.2.2.2.2.2.2.2.2.2.1 q ht
            obtain ⟨j1, hj1, rfl⟩ := mm_n2 q q1 q2
            obtain ⟨-, -, -, g4⟩ := hG.2.2.2.2.1 j1 hj1
            have ea : a (2000 + j1) = a0 (2000 + j1) := he _ (Or.inr (Nat.le_trans (by decide) (Nat.le_add_right 2000 _)))
            have hs2 := (hw.2.2.2.2.1 j1 hj1).2.1
            have r9 := va_tb hx hb g4 hS (i := i1) (by rw [hs2] at hin; exact hin) rfl hd (by
              have kk := k0 (mm_nx_in h)
              have kk : W p l e R s m args below meth c Hp locs (mm_nc H - c0) (mm_ns H - s0) Q (F0 m (pc + 1) ls (.int (mm_I H (2000 + j1) i1.toNatClampNeg) :: r.map (mm_tr a))) := kk
              rw [(hw.2.2.2.2.1 j1 hj1).2.2] at kk
              exact kk)
            rw [← ea] at r9
            exact r9
      · cases h
    · cases h
  | laload =>
    have hlen : len = 1 := by simpa [mm_lenok] using hlen
    subst hlen
    simp only [mm_step] at h
    split at h
    · rename_i i1 q r
      split at h
      · rename_i ht
        split at h
        · cases h
        · rename_i hin
          have hlt : q < mm_n H := mm_wf_lt hw (by omega)
          exact va_lald (D := D) (tys := mm_tys cA) (ws := mm_ws a cA H) hx hb hK hP.1 q 2 (by rw [mm_ws_get hlt, mm_cell_lng ht, ht]) rfl hin hd (k0 (mm_nx_in h))
      · cases h
    · cases h
  | aaload =>
    have hlen : len = 1 := by simpa [mm_lenok] using hlen
    subst hlen
    simp only [mm_step] at h
    split at h
    · rename_i i1 q r
      split at h
      · rename_i ht
        split at h
        · cases h
        · rename_i hin
          have hlt : q < mm_n H := mm_wf_lt hw (by omega)
          have er : ∀ o : Option Nat, va_rf (o.map a) = mm_tr a (va_rf o) := fun o => by cases o <;> rfl
          have kk := k0 (mm_nx_in h)
          have kk : W p l e R s m args below meth c Hp locs (mm_nc H - c0) (mm_ns H - s0) Q (F0 m (pc + 1) ls (mm_tr a (va_rf (mm_R H q i1.toNatClampNeg)) :: r.map (mm_tr a))) := kk
          rw [← er] at kk
          have hcell := mm_ws_get (a := a) (cA := cA) hlt
          rw [mm_cell_ref ht] at hcell
          rcases ht with ht | ht | ht
          · exact va_aldq (D := D) (tys := mm_tys cA) (ws := mm_ws a cA H) hx hb hK hP.1 q 3 hcell (by rw [ht]; rfl) hin hd kk
          · exact va_aldq (D := D) (tys := mm_tys cA) (ws := mm_ws a cA H) hx hb hK hP.1 q 4 hcell (by rw [ht]; rfl) hin hd kk
          · exact va_aldq (D := D) (tys := mm_tys cA) (ws := mm_ws a cA H) hx hb hK hP.1 q 5 hcell (by rw [ht]; rfl) hin hd kk
      · cases h
    · cases h
  | iastore =>
    have hlen : len = 1 := by simpa [mm_lenok] using hlen
    subst hlen
    simp only [mm_step] at h
    split at h
    · rename_i x i1 q r
      split at h
      · rename_i ht
        split at h
        · cases h
        · rename_i hin
          have hlt : q < mm_n H := mm_wf_lt hw (by omega)
          obtain rfl := mm_nx_in h
          have e2 : mm_cell a cA (mm_wI H q i1.toNatClampNeg x) q = .inl (cA 100, (mm_sh H q).2, .inl (upd (mm_I H q) i1.toNatClampNeg x)) := by
            rw [show mm_cell a cA (mm_wI H q i1.toNatClampNeg x) q = _ from mm_cell_int (H := mm_wI H q i1.toNatClampNeg x) (Or.inl ht)]
            show Sum.inl (cA (mm_sh H q).1, (mm_sh H q).2, Sum.inl (mm_u2 H.1 q i1.toNatClampNeg x q)) = _
            rw [mm_u2_own, ht]
            rfl
          refine va_iast (D := D) (tys := mm_tys cA) (ws := mm_ws a cA H) hx hb hK hP.1 hP.2 hS q 0 (by rw [mm_ws_get hlt, mm_cell_int (Or.inl ht), ht]) rfl hin hd (fun Hq locsq k1 k2 k3 => ?_)
          rw [← e2, mm_ws_wI] at k1 k2
          exact k a Hq locsq ls (mm_ext_refl _ _) ⟨k1, k2⟩ k3 hl
      · cases h
    · cases h
  | bastore =>
    have hlen : len = 1 := by simpa [mm_lenok] using hlen
    subst hlen
    simp only [mm_step] at h
    split at h
    · rename_i x i1 q r
      split at h
      · rename_i ht
        split at h
        · cases h
        · rename_i hin
          have hlt : q < mm_n H := mm_wf_lt hw (by omega)
          obtain rfl := mm_nx_in h
          have e2 : mm_cell a cA (mm_wI H q i1.toNatClampNeg (vp_nar .byte x)) q = .inl (cA 101, (mm_sh H q).2, .inl (upd (mm_I H q) i1.toNatClampNeg (vp_nar .byte x))) := by
            rw [show mm_cell a cA (mm_wI H q i1.toNatClampNeg (vp_nar .byte x)) q = _ from mm_cell_int (H := mm_wI H q i1.toNatClampNeg (vp_nar .byte x)) (Or.inr ht)]
            show Sum.inl (cA (mm_sh H q).1, (mm_sh H q).2, Sum.inl (mm_u2 H.1 q i1.toNatClampNeg (vp_nar .byte x) q)) = _
            rw [mm_u2_own, ht]
            rfl
          refine va_bast (D := D) (tys := mm_tys cA) (ws := mm_ws a cA H) hx hb hK hP.1 hP.2 hS q 1 (by rw [mm_ws_get hlt, mm_cell_int (Or.inr ht), ht]) rfl hin hd (fun Hq locsq k1 k2 k3 => ?_)
          rw [← e2, mm_ws_wI] at k1 k2
          exact k a Hq locsq ls (mm_ext_refl _ _) ⟨k1, k2⟩ k3 hl
      · cases h
    · cases h
  | lastore =>
    have hlen : len = 1 := by simpa [mm_lenok] using hlen
    subst hlen
    simp only [mm_step] at h
    split at h
    · rename_i x i1 q r
      split at h
      · rename_i ht
        split at h
        · cases h
        · rename_i hin
          have hlt : q < mm_n H := mm_wf_lt hw (by omega)
          obtain rfl := mm_nx_in h
          have e2 : mm_cell a cA (mm_wL H q i1.toNatClampNeg x) q = .inl (cA 102, (mm_sh H q).2, .inr (.inl (vp_updL (mm_L H q) i1.toNatClampNeg x))) := by
            rw [show mm_cell a cA (mm_wL H q i1.toNatClampNeg x) q = _ from mm_cell_lng (H := mm_wL H q i1.toNatClampNeg x) ht]
            show Sum.inl (cA (mm_sh H q).1, (mm_sh H q).2, Sum.inr (Sum.inl (mm_u2 H.2.2.1 q i1.toNatClampNeg x q))) = _
            rw [mm_u2_own, ht]
            rfl
          refine va_last (D := D) (tys := mm_tys cA) (ws := mm_ws a cA H) hx hb hK hP.1 hP.2 hS q 2 (by rw [mm_ws_get hlt, mm_cell_lng ht, ht]) rfl hin hd (fun Hq locsq k1 k2 k3 => ?_)
          rw [← e2, mm_ws_wL] at k1 k2
          exact k a Hq locsq ls (mm_ext_refl _ _) ⟨k1, k2⟩ k3 hl
      · cases h
    · cases h
  | aastore =>
    have hlen : len = 1 := by simpa [mm_lenok] using hlen
    subst hlen
    simp only [mm_step] at h
    split at h
    · rename_i x i1 q r
      split at h
      · rename_i ht
        split at h
        · cases h
        · rename_i hin
          have ht3 : (mm_sh H q).1 = 103 ∨ (mm_sh H q).1 = 104 ∨ (mm_sh H q).1 = 105 := by omega
          have hlt : q < mm_n H := mm_wf_lt hw (by omega)
          obtain rfl := mm_nx_in h
          have e2 : mm_cell a cA (mm_wR H q i1.toNatClampNeg (some x)) q = .inl (cA (mm_sh H q).1, (mm_sh H q).2, .inr (.inr (.inr (.inr (va_up (fun j => (mm_R H q j).map a) i1.toNatClampNeg (some (a x))))))) := by
            rw [show mm_cell a cA (mm_wR H q i1.toNatClampNeg (some x)) q = _ from mm_cell_ref (H := mm_wR H q i1.toNatClampNeg (some x)) ht3]
            show Sum.inl (cA (mm_sh H q).1, (mm_sh H q).2, Sum.inr (Sum.inr (Sum.inr (Sum.inr (fun j => (mm_u2 H.2.1 q i1.toNatClampNeg (some x) q j).map a))))) = _
            have e3 : (fun j => (mm_u2 H.2.1 q i1.toNatClampNeg (some x) q j).map a) = va_up (fun j => (mm_R H q j).map a) i1.toNatClampNeg (some (a x)) := by
              funext j
              simp only [mm_u2, va_up, true_and]
              split <;> rfl
            rw [e3]
          have kk : ∀ (Hq : Heap) (locsq : List Loc), va_P D mm_cl ((mm_ws a cA H).set q (a q, .inl (cA (mm_sh H q).1, (mm_sh H q).2, .inr (.inr (.inr (.inr (va_up (fun j => (mm_R H q j).map a) i1.toNatClampNeg (some (a x))))))))) Hq → va_D (fun q => base ≤ q) ((mm_ws a cA H).set q (a q, .inl (cA (mm_sh H q).1, (mm_sh H q).2, .inr (.inr (.inr (.inr (va_up (fun j => (mm_R H q j).map a) i1.toNatClampNeg (some (a x))))))))) → va_S (fun q => base ≤ q) s.heap Hq locsq → W p l e R s m args below meth c Hq locsq (mm_nc H - c0) (mm_ns H - s0) Q (F0 m (pc + 1) ls (r.map (mm_tr a))) := by
            intro Hq locsq k1 k2 k3
            rw [← e2, mm_ws_wR] at k1 k2
            exact k a Hq locsq ls (mm_ext_refl _ _) ⟨k1, k2⟩ k3 hl
          have hcell := mm_ws_get (a := a) (cA := cA) hlt
          rw [mm_cell_ref ht3] at hcell
          have hobj : ∀ ci r0, mm_at mm_cl ci = some r0 → (mm_sh H x).1 = ci → ci < 13 → ∃ cellV : Cell, Hp[a x]? = some cellV ∧ cellV.vm.isStatics = false ∧ s.vm.findClass r0.1 = some cellV.cls := by
            intro ci r0 hr hsh hci
            have hlx : x < mm_n H := mm_wf_lt hw (by omega)
            have hcx := mm_ws_get (a := a) (cA := cA) hlx
            rw [mm_cell_obj (by omega)] at hcx
            rw [hsh] at hcx
            exact va_recv hK hP.1 (mm_cl_get hr) hcx
          have hrefl : ∀ C : String, ∀ comp c9 : ClassId, s.vm.findClass C = some comp → s.vm.findClass C = some c9 → s.vm.assignable c9 comp = true := by
            intro C comp c9 g1 g2
            rw [g1] at g2
            cases g2
            exact mm_assign_refl _ _
          rcases ht with ⟨t1, t2⟩ | ⟨t1, t2⟩ | ⟨t1, t2⟩
          · exact vb_astq (D := D) (tys := mm_tys cA) (ws := mm_ws a cA H) (E := RX0) (C := RX0) hx hb hK hP.1 hP.2 hS q 3 hcell (by rw [t1]; rfl) (hobj 0 (RX0, TX0, 2) rfl t2 (by decide)) (hrefl _) hin hd kk
          · exact vb_astq (D := D) (tys := mm_tys cA) (ws := mm_ws a cA H) (E := RX8) (C := RX8) hx hb hK hP.1 hP.2 hS q 4 hcell (by rw [t1]; rfl) (hobj 8 (RX8, TX8, 5) rfl t2 (by decide)) (hrefl _) hin hd kk
          · have hq : 1000 ≤ x ∧ x < 1028 := by
              have h9 : 1000 ≤ x := by
                rcases Nat.lt_or_ge x 1000 with z | z
                · exfalso
                  rcases Nat.lt_or_ge x (mm_n H) with y | y
                  · rcases hw.2.2.2.1 x y with ⟨g, -⟩ | ⟨g1, g2⟩ <;> omega
                  · have := hw.2.1 x y z; omega
                · exact z
              exact ⟨h9, hw.2.2.2.2.2.2.2.2.2.1 x h9 t2⟩
            obtain ⟨j1, hj1, rfl, e1⟩ := mm_n1 x hq.1 hq.2
            obtain ⟨⟨cellV, g1, g2, g3, g4⟩, -⟩ := hG.2.2.2.2.1 j1 hj1
            have ea : a (1000 + j1) = a0 (1000 + j1) := he _ (Or.inr (Nat.le_add_right 1000 _))
            exact vb_astq (D := D) (tys := mm_tys cA) (ws := mm_ws a cA H) (E := "java/lang/String") (C := "java/lang/String") hx hb hK hP.1 hP.2 hS q 5 hcell (by rw [t1]; rfl) ⟨cellV, by rw [ea, hS.2.1 _ (Array.getElem?_eq_some_iff.mp g1).1 g4]; exact g1, g2, g3⟩ (hrefl _) hin hd kk
      · cases h
    · cases h
  | arraylength =>
    have hlen : len = 1 := by simpa [mm_lenok] using hlen
    subst hlen
    simp only [mm_step] at h
    split at h
    · rename_i q r
      split at h
      · rename_i ht
        have kk := k0 (mm_nx_in h)
        have kk : W p l e R s m args below meth c Hp locs (mm_nc H - c0) (mm_ns H - s0) Q (F0 m (pc + 1) ls (.int (Int32.ofNat (mm_sh H q).2) :: r.map (mm_tr a))) := kk
        rcases ht with ⟨t1, t2⟩ | t1
        · by_cases t6 : (mm_sh H q).1 = 106
          · have hq : q = 5000 := hw.2.2.2.2.2.2.2.2.2.2.2.1 q t6
            subst hq
            have e5 : a 5000 = a0 5000 := he 5000 (Or.inr (by decide))
            have hX := hG.2.2.2.2.2.2.1
            have hbl := hG.2.2.2.2.2.2.2.1
            rw [hw.2.2.2.2.2.1] at kk
            have r9 := va_slen (A := fun q => base ≤ q) hx hb hX (by have := hG.1; omega) (by omega) hS hd kk
            rw [← e5] at r9
            exact r9
          · have hlt : q < mm_n H := mm_wf_lt hw (by omega)
            have hcell := mm_ws_get (a := a) (cA := cA) hlt
            have h5 : (mm_sh H q).1 = 100 ∨ (mm_sh H q).1 = 101 ∨ (mm_sh H q).1 = 102 ∨ (mm_sh H q).1 = 103 ∨ (mm_sh H q).1 = 104 ∨ (mm_sh H q).1 = 105 := by omega
            rcases h5 with t | t | t | t | t | t
            · rw [mm_cell_int (Or.inl t)] at hcell
              exact va_alen (D := D) (tys := mm_tys cA) (ws := mm_ws a cA H) hx hb hK hP.1 q 0 hcell (by rw [t]; rfl) rfl hd kk
            · rw [mm_cell_int (Or.inr t)] at hcell
              exact va_alen (D := D) (tys := mm_tys cA) (ws := mm_ws a cA H) hx hb hK hP.1 q 1 hcell (by rw [t]; rfl) rfl hd kk
            · rw [mm_cell_lng t] at hcell
              exact va_alen (D := D) (tys := mm_tys cA) (ws := mm_ws a cA H) hx hb hK hP.1 q 2 hcell (by rw [t]; rfl) rfl hd kk
            · rw [mm_cell_ref (by omega)] at hcell
              exact va_alen (D := D) (tys := mm_tys cA) (ws := mm_ws a cA H) hx hb hK hP.1 q 3 hcell (by rw [t]; rfl) rfl hd kk
            · rw [mm_cell_ref (by omega)] at hcell
              exact va_alen (D := D) (tys := mm_tys cA) (ws := mm_ws a cA H) hx hb hK hP.1 q 4 hcell (by rw [t]; rfl) rfl hd kk
            · rw [mm_cell_ref (by omega)] at hcell
              exact va_alen (D := D) (tys := mm_tys cA) (ws := mm_ws a cA H) hx hb hK hP.1 q 5 hcell (by rw [t]; rfl) rfl hd kk
        · obtain ⟨q1, q2⟩ := hw.2.2.2.2.2.2.2.2.2.2.1 q t1
          obtain ⟨j1, hj1, rfl⟩ := mm_n2 q q1 q2
          obtain ⟨-, -, -, g4⟩ := hG.2.2.2.2.1 j1 hj1
          have ea : a (2000 + j1) = a0 (2000 + j1) := he _ (Or.inr (Nat.le_trans (by decide) (Nat.le_add_right 2000 _)))
          rw [(hw.2.2.2.2.1 j1 hj1).2.1] at kk
          have r9 := va_tlen hx hb g4 hS rfl hd kk
          rw [← ea] at r9
          exact r9
      · cases h
    · cases h
  | new j =>
    have hlen : len = 3 := by simpa [mm_lenok] using hlen
    subst hlen
    simp only [mm_step] at h
    split at h
    · rename_i ci N hk
      split at h
      · rename_i hn
        obtain ⟨r0, g1, g2, g3, w1, w2, w3⟩ := hFN _ _ _ _ hk
        subst g2
        obtain rfl := mm_nx_in h
        obtain ⟨hu, ⟨tys, ht1, ht2⟩, hnm⟩ := hFC _ _ g1
        have hc1 : mm_nc H - c0 + 1 = mm_nc H + 1 - c0 := by omega
        have hs1 : mm_ns H - s0 + r0.2.2 = mm_ns H + r0.2.2 - s0 := by omega
        have hcR : mm_nc H + 1 - c0 ≤ R.cells := hcR
        have hsR : mm_ns H + r0.2.2 - s0 ≤ R.slots := hsR
        refine va_new (D := D) (tys := mm_tys cA) (ws := mm_ws a cA H) (ci := ci) (fs := (List.range r0.2.2).map (fun j => defaultValue (tys j))) hx hb hts hu tys ht1 hown (hts _ w1) (hts _ w2) (hts _ w3) hK hP.1 hP.2 hS (fun q z => Nat.le_trans hG.1 z) (mm_cl_get g1) (fun j hj => ?_) (by omega) (by omega) hd (fun q Hq k1 k2 k3 => ?_)
        · unfold vp_V
          rw [List.getD_eq_getElem?_getD, List.getElem?_map, List.getElem?_range hj]
          rfl
        · have hb9 : (fun k => if k = mm_n H then q else a k) = (fun k => if k = mm_n H then q else a k) := rfl
          have he9 : mm_ext (mm_n H) a (fun k => if k = mm_n H then q else a k) := fun z hz => by
            have : z ≠ mm_n H := by omega
            simp [this]
          have ec : mm_cell (fun k => if k = mm_n H then q else a k) cA (mm_new H ci r0.2.2) (mm_n H) = .inr (ci, (List.range r0.2.2).map (fun j => defaultValue (tys j))) := by
            have hsh : mm_sh (mm_new H ci r0.2.2) (mm_n H) = (ci, r0.2.2) := by simp [mm_sh, mm_new, mm_u1]
            rw [mm_cell_obj (by rw [hsh]; exact g3), hsh]
            unfold mm_fs
            congr 2
            apply List.map_congr_left
            intro j hj
            obtain ⟨kd, f7, f9⟩ := ht2 j (List.mem_range.mp hj)
            rw [f7]
            rcases f9 with ⟨rfl, e9, -⟩ | ⟨rfl, e9, -⟩ | ⟨rfl, e9, -⟩ | ⟨rfl, e9, -⟩
            · rw [e9]; simp [mm_fv, mm_I, mm_new, mm_u1, defaultValue]
            · rw [e9]; simp [mm_fv, mm_I, mm_new, mm_u1, defaultValue]
            · rcases e9 with ⟨C, e9⟩ | ⟨t, e9⟩ <;> (rw [e9]; simp [mm_fv, mm_R, mm_new, mm_u1, defaultValue, va_rf, mm_tr])
            · rcases e9 with ⟨C, e9⟩ | ⟨t, e9⟩ <;> (rw [e9]; simp [mm_fv, mm_R, mm_new, mm_u1, defaultValue, va_rf, mm_tr])
          rw [mm_ws_new hw.2.2.2.2.2.2.2.2.2.2.2.2 hn hb9 ec] at k1 k2
          have r9 := k _ Hq locs ls he9 ⟨k1, k2⟩ k3 (mm_lr_extv hl he9 hv.1)
          have e5 : (Value.ref (mm_n H) :: st).map (mm_tr (fun k => if k = mm_n H then q else a k)) = .ref q :: st.map (mm_tr a) := by
            rw [List.map_cons, mm_map_ext he9 hv.2]
            simp [mm_tr]
          dsimp only at r9
          rw [e5] at r9
          rw [hc1, hs1]
          exact r9
      · cases h
    · split at h
      · split at h
        · split at h
          · split at h
            · cases h
            · cases h
          · cases h
        · cases h
      · cases h
  | newarray ty =>
    have hlen : len = 2 := by simpa [mm_lenok] using hlen
    subst hlen
    simp only [mm_step] at h
    obtain ⟨x, rest, rfl, hz⟩ := mm_i_in h
    have h2 := (List.forall_mem_cons.mp hv.2).2
    split at hz
    · cases hz
    · rename_i hx0
      split at hz
      · rename_i hn
        have key : ∀ (t t0 : Nat) (ty0 : FieldType) (a1 : mm_H → vp_A), (mm_tys cA)[t0]? = some (cA t, ty0) → newarray.typeOf ty = ty0 → Jvm.Cond.arrayClass ty0 ∈ mm_TW → componentBytes ty0 ≤ 8 → (∀ c : ClassId, vp_cell c (a1 H) = arrV c x.toNatClampNeg (fun _ => defaultValue ty0)) →
            (∀ b, mm_cell b cA (mm_new H t x.toNatClampNeg) (mm_n H) = .inl (cA t, a1 H)) → (∀ u : State, ∀ c1 c2 : ClassId, va_RA u c1 ty0 → va_RA u c2 ty0 → c1 = c2) → mm_nx (pc + 2) lo (.ref (mm_n H) :: rest) (mm_new H t x.toNatClampNeg) = some (.inl q9) →
            W p l e R s m args below meth c Hp locs (mm_nc H - c0) (mm_ns H - s0) Q (F0 m pc ls (.int x :: rest.map (mm_tr a))) := by
          intro t t0 ty0 a1 htt hty hwd hcb ha1 hce hun h
          obtain rfl := mm_nx_in h
          have hc1 : mm_nc H - c0 + 1 = mm_nc H + 1 - c0 := by omega
          have hs1 : mm_ns H - s0 + x.toNatClampNeg = mm_ns H + x.toNatClampNeg - s0 := by omega
          have hcR : mm_nc H + 1 - c0 ≤ R.cells := hcR
          have hsR : mm_ns H + x.toNatClampNeg - s0 ≤ R.slots := hsR
          have hle : ¬ 100000 < x.toNatClampNeg := fun z => hx0 (Or.inr z)
          refine va_newa (atype := ty) (D := D) (tys := mm_tys cA) (ws := mm_ws a cA H) hx hb (by rw [hty]; exact hts _ hwd) hty hK hP.1 hP.2 hS (fun q z => Nat.le_trans hG.1 z) ha1 (fun z => hx0 (Or.inl z)) rfl (Nat.le_trans (Nat.mul_le_mul (Nat.not_lt.mp hle) hcb) (by decide)) (by omega) (by omega) hd (fun q cN Hq k0 k1 k2 k3 => ?_)
          have e6 : cN = cA t := by
            have g1 := (k0.2 (mm_tys cA).length (cN, ty0) (by simp)).2
            have g2 := (hK.2 t0 (cA t, ty0) htt).2
            exact hun s _ _ g1 g2
          subst e6
          have he9 : mm_ext (mm_n H) a (fun k => if k = mm_n H then q else a k) := fun z hz => by
            have : z ≠ mm_n H := by omega
            simp [this]
          rw [mm_ws_new hw.2.2.2.2.2.2.2.2.2.2.2.2 hn rfl (hce _)] at k1 k2
          have r9 := k _ Hq locs ls he9 ⟨k1, k2⟩ k3 (mm_lr_extv hl he9 hv.1)
          have e5 : (Value.ref (mm_n H) :: rest).map (mm_tr (fun k => if k = mm_n H then q else a k)) = .ref q :: rest.map (mm_tr a) := by
            rw [List.map_cons, mm_map_ext he9 h2]
            simp [mm_tr]
          dsimp only at r9
          rw [e5] at r9
          rw [hc1, hs1]
          exact r9
        have hsh : ∀ t, mm_sh (mm_new H t x.toNatClampNeg) (mm_n H) = (t, x.toNatClampNeg) := fun t => by simp [mm_sh, mm_new, mm_u1]
        have hI : ∀ t, mm_I (mm_new H t x.toNatClampNeg) (mm_n H) = fun _ => 0 := fun t => by simp [mm_I, mm_new, mm_u1]
        have hL : ∀ t, mm_L (mm_new H t x.toNatClampNeg) (mm_n H) = fun _ => 0 := fun t => by simp [mm_L, mm_new, mm_u1]
        split at hz
        · exact key 100 0 .int (fun _ => (x.toNatClampNeg, .inl (fun _ => 0))) rfl rfl hFK.2.2.2.2.2.2.2.2.1 (by decide) (fun _ => rfl) (fun b => by rw [mm_cell_int (by rw [hsh]; exact Or.inl rfl), hsh, hI]) (fun u c1 c2 z1 z2 => by have z1 : u.vm.findClass _ = some c1 := z1; have z2 : u.vm.findClass _ = some c2 := z2; rw [z1] at z2; cases z2; rfl) hz
        · exact key 101 1 .byte (fun _ => (x.toNatClampNeg, .inl (fun _ => 0))) rfl rfl hFK.2.2.2.2.2.2.2.2.2.1 (by decide) (fun _ => rfl) (fun b => by rw [mm_cell_int (by rw [hsh]; exact Or.inr rfl), hsh, hI]) (fun u c1 c2 z1 z2 => by have z1 : u.vm.findClass _ = some c1 := z1; have z2 : u.vm.findClass _ = some c2 := z2; rw [z1] at z2; cases z2; rfl) hz
        · exact key 102 2 .long (fun _ => (x.toNatClampNeg, .inr (.inl (fun _ => 0)))) rfl rfl hFK.2.2.2.2.2.2.2.2.2.2 (by decide) (fun _ => rfl) (fun b => by rw [mm_cell_lng (by rw [hsh]), hsh, hL]) (fun u c1 c2 z1 z2 => by have z1 : u.vm.findClass _ = some c1 := z1; have z2 : u.vm.findClass _ = some c2 := z2; rw [z1] at z2; cases z2; rfl) hz
        · cases hz
      · cases hz
  | anewarray j =>
    have hlen : len = 3 := by simpa [mm_lenok] using hlen
    subst hlen
    simp only [mm_step] at h
    obtain ⟨x, rest, rfl, hz⟩ := mm_i_in h
    have h2 := (List.forall_mem_cons.mp hv.2).2
    split at hz
    · cases hz
    · rename_i hx0
      split at hz
      · rename_i hn
        split at hz
        · rename_i t ht
          obtain ⟨C, gC, w1, w2⟩ := hFA _ _ _ ht
          obtain rfl := mm_nx_in hz
          have hc1 : mm_nc H - c0 + 1 = mm_nc H + 1 - c0 := by omega
          have hs1 : mm_ns H - s0 + x.toNatClampNeg = mm_ns H + x.toNatClampNeg - s0 := by omega
          have hcR : mm_nc H + 1 - c0 ≤ R.cells := hcR
          have hsR : mm_ns H + x.toNatClampNeg - s0 ≤ R.slots := hsR
          have hle : ¬ 100000 < x.toNatClampNeg := fun z => hx0 (Or.inr z)
          obtain ⟨t0, htt⟩ : ∃ t0 : Nat, (mm_tys cA)[t0]? = some (cA t, .object C) := by
            rcases gC with ⟨rfl, rfl⟩ | ⟨rfl, rfl⟩ | ⟨rfl, rfl⟩
            · exact ⟨3, rfl⟩
            · exact ⟨4, rfl⟩
            · exact ⟨5, rfl⟩
          have ht3 : t = 103 ∨ t = 104 ∨ t = 105 := by omega
          refine va_newq (D := D) (tys := mm_tys cA) (ws := mm_ws a cA H) hx hb hown (hts _ w1) (va_AO.of (hts _ w2)) hK hP.1 hP.2 hS (fun q z => Nat.le_trans hG.1 z) (fun z => hx0 (Or.inl z)) rfl (Nat.le_trans (Nat.mul_le_mul_right 4 (Nat.not_lt.mp hle)) (by decide)) (by omega) (by omega) hd (fun q cN Hq k0 k1 k2 k3 => ?_)
          have e6 : cN = cA t := by
            obtain ⟨-, -, -, -, -, g1⟩ := (k0.2 (mm_tys cA).length (cN, .object C) (by simp)).2
            obtain ⟨-, -, -, -, -, g2⟩ := (hK.2 t0 (cA t, .object C) htt).2
            rw [g1] at g2
            cases g2
            rfl
          subst e6
          have he9 : mm_ext (mm_n H) a (fun k => if k = mm_n H then q else a k) := fun z hz => by
            have : z ≠ mm_n H := by omega
            simp [this]
          have hsh : mm_sh (mm_new H t x.toNatClampNeg) (mm_n H) = (t, x.toNatClampNeg) := by simp [mm_sh, mm_new, mm_u1]
          have hR : mm_R (mm_new H t x.toNatClampNeg) (mm_n H) = fun _ => none := by simp [mm_R, mm_new, mm_u1]
          rw [mm_ws_new hw.2.2.2.2.2.2.2.2.2.2.2.2 hn rfl (by rw [mm_cell_ref (by rw [hsh]; exact ht3), hsh, hR]; rfl)] at k1 k2
          have r9 := k _ Hq locs ls he9 ⟨k1, k2⟩ k3 (mm_lr_extv hl he9 hv.1)
          have e5 : (Value.ref (mm_n H) :: rest).map (mm_tr (fun k => if k = mm_n H then q else a k)) = .ref q :: rest.map (mm_tr a) := by
            rw [List.map_cons, mm_map_ext he9 h2]
            simp [mm_tr]
          dsimp only at r9
          rw [e5] at r9
          show W p l e R s m args below meth c Hq locs (mm_nc H - c0 + 1) (mm_ns H - s0 + x.toNatClampNeg) Q _
          rw [hc1, hs1]
          exact r9
        · cases hz
      · cases hz
  | invokespecial j =>
    have hlen : len = 3 := by simpa [mm_lenok] using hlen
    subst hlen
    simp only [mm_step] at h
    split at h
    · exact (mm_call_inl h).elim
    · rename_i j1 a1 a2 a3 hj
      split at h
      · rename_i q r
        split at h
        · rename_i hcat
          exact W.objInit hx hb hown (hts _ (hFK.2.2.2.2.2.1 _ _ _ _ _ _ hj)) (hts _ hFK.2.2.2.2.2.2.1) (hts _ hFK.2.2.2.2.2.2.2.1) rfl (by rw [hml]; exact hl.2.1) rfl hd (by omega) (by
            have h0 : 2 * (F0 m pc ls ((Value.ref q :: r).map (mm_tr a))).monitorRoom + ((r.map (mm_tr a)).map fun v => v.category).sum ≤ 8 := lv_room (by rw [mm_cat_sum]; exact hcat.1)
            omega) (k0 (mm_nx_in h))
        · cases h
      · cases h
    · cases h
  | invokestatic j =>
    have hlen : len = 3 := by simpa [mm_lenok] using hlen
    subst hlen
    simp only [mm_step] at h
    split at h
    · exact (mm_call_inl h).elim
    · exact (mm_call_inl h).elim
    · rename_i j1 a1 a2 a3 hj
      split at h
      · rename_i y x r
        split at h
        · rename_i hcat
          have h0 : ((r.map (mm_tr a)).map fun v => v.category).sum ≤ 8 := by rw [mm_cat_sum]; exact hcat.1
          have hc1 : mm_nc H - c0 ≤ R.cells := by have e9 := mm_nx_in h; rw [e9] at hcR; exact hcR
          have hc2 : mm_ns H - s0 ≤ R.slots := by have e9 := mm_nx_in h; rw [e9] at hsR; exact hsR
          exact va_mmax hx hb (by rw [hml]; exact hl.2.1.symm) hown (hts _ (hFJ.1 _ _ _ _ _ _ hj)) (hts _ hFJ.2.2.1) (hts _ hFJ.2.2.2.2.1) (hts _ hFJ.2.2.2.2.2.1) (by omega) (by omega) hc1 hc2 hd (k0 (mm_nx_in h))
        · cases h
      · cases h
    · rename_i j1 a1 a2 a3 hj
      split at h
      · rename_i y x r
        split at h
        · rename_i hcat
          have h0 : ((r.map (mm_tr a)).map fun v => v.category).sum ≤ 8 := by rw [mm_cat_sum]; exact hcat.1
          have hc1 : mm_nc H - c0 ≤ R.cells := by have e9 := mm_nx_in h; rw [e9] at hcR; exact hcR
          have hc2 : mm_ns H - s0 ≤ R.slots := by have e9 := mm_nx_in h; rw [e9] at hsR; exact hsR
          exact va_mmin hx hb (by rw [hml]; exact hl.2.1.symm) hown (hts _ (hFJ.2.1 _ _ _ _ _ _ hj)) (hts _ hFJ.2.2.2.1) (hts _ hFJ.2.2.2.2.1) (hts _ hFJ.2.2.2.2.2.2) (by omega) (by omega) hc1 hc2 hd (k0 (mm_nx_in h))
        · cases h
      · cases h
    · cases h
  | invokevirtual j =>
    exfalso
    simp only [mm_step] at h
    split at h
    · exact (mm_call_inl h).elim
    · exact (mm_call_inl h).elim
    · cases h
  | ireturn =>
    exfalso
    simp only [mm_step] at h
    split at h <;> first | (cases h; done) | (split at h <;> first | (cases h; done) | (split at h <;> cases h))
  | areturn =>
    exfalso
    simp only [mm_step] at h
    split at h <;> first | (cases h; done) | (split at h <;> first | (cases h; done) | (split at h <;> cases h))
  | return_ =>
    exfalso
    simp only [mm_step] at h
    split at h <;> first | (cases h; done) | (split at h <;> first | (cases h; done) | (split at h <;> cases h))
  | _ => simp only [mm_step] at h; cases h
end WSTEP
