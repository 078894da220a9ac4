def mm_Fall (lawi : Nat) : Prop := mm_Fs ∧ mm_FM lawi ∧ mm_FL lawi ∧ mm_FX
theorem mm_toMet {l : Launch} {y : MethodName} {ws : List Jvm.Cond} {rm : Room} {Pc : Array Value → State → Prop} {D : va_G} {cA : Nat → ClassId} {base : Nat} {a : Nat → Nat} {H H1 : mm_H} {v : Option Value} {mc ms : Nat} {free : Addr → Prop}
    (h : vx_Met l y ws rm Pc (mm_Qc D cA base a H (.inl v) H1) (mm_XC D cA base a H (.inl v) H1) mc ms free) : Met l y ws rm Pc (mm_Qc D cA base a H (.inl v) H1) mc ms free := by
  intro p e h1 h2 h3 s m args below h4 h5 h6 h7
  obtain ⟨n, o, g1, g2, g3, g4⟩ := h p e h1 h2 h3 s m args below h4 h5 h6 h7
  refine ⟨n, o, g1, g2, g3, ?_⟩
  rcases g4 with g4 | ⟨q, -, E, ce, L, ⟨⟨E1, b, z, -⟩, -⟩, -⟩
  · exact g4
  · cases z
theorem mm_ar1 {x y z c0 r : Nat} (h1 : c0 ≤ x) (h2 : x ≤ y) (h3 : y ≤ z) (h4 : z - c0 ≤ r) : x - c0 + (y - x) ≤ r := by omega
theorem mm_ar2 {y z c0 r : Nat} (h3 : y ≤ z) (h4 : z - c0 ≤ r) : y - c0 ≤ r := by omega
section CONT
variable {p : Program} {l : Launch} {e : Env} {R : Room} {s : State} {m : MethodId} {args : Array Value} {below : List Frame} {meth : Method} {c : Code} {Q : State → Prop}
variable {D : va_G} {cA : Nat → ClassId} {a : Nat → Nat} {base : Nat} {H H2 : mm_H} {Hp : Heap} {locs : List Loc} {ls : Array Slot} {cells slots mc ms pc : Nat} {st0 rest : List Value} {o : Option Value ⊕ Nat} {av : Array Value}
theorem mm_run_of {Qa : State → Outcome → State → Prop} {XC : String → State → State → Prop} {g : JFrame} (h : va_Run p l e R s m args below meth c Hp locs cells slots mc ms g rest Qa (fun q => base ≤ q)) : vx_Run p l e R s m args below meth c Hp locs cells slots mc ms g rest Qa XC (fun q => base ≤ q) :=
  fun T hT X => Or.inl (h T hT X)
theorem mm_contW (hr : vx_Run p l e R s m args below meth c Hp locs cells slots mc ms (F0 m pc ls st0) rest (mm_Qc D cA base a H o H2 av) (mm_XC D cA base a H o H2) (fun q => base ≤ q)) (hS : va_S (fun q => base ≤ q) s.heap Hp locs)
    (kr : ∀ (v : Option Value) (b : Nat → Nat) (Hp1 : Heap) (locs1 : List Loc), o = .inl v → mm_ext (mm_n H) a b → mm_P D cA b base H2 Hp1 → va_S (fun q => base ≤ q) s.heap Hp1 locs1 → W p l e R s m args below meth c Hp1 locs1 (cells + mc) (slots + ms) Q (F0 m (pc + 3) ls ((v.map (mm_tr b)).toList ++ rest)))
    (kx : ∀ (E : Nat) (b : Nat → Nat) (Hp1 : Heap) (locs1 : List Loc) (q : Addr) (ce : Cell), o = .inr E → mm_ext (mm_n H) a b → mm_P D cA b base H2 Hp1 → va_S (fun q => base ≤ q) s.heap Hp1 locs1 → Hp1[q]? = some ce → ce.vm = .none → s.vm.findClass (mm_ename E) = some ce.cls → vx_W p l e R s m args below meth c Hp1 locs1 (cells + mc) (slots + ms) Q (F0 m pc ls rest) q) :
    W p l e R s m args below meth c Hp locs cells slots Q (F0 m pc ls st0) := by
  intro T hT X
  have keep : ∀ (st₀ t T' : State) (L : List Loc), st₀.heap = Hp → (∀ q ∈ L, base ≤ q.base) → T'.heap = t.heap → va_F (fun q => base ≤ q) st₀ t → va_S (fun q => base ≤ q) s.heap T'.heap (locs ++ L) := by
    intro st₀ t T' L h0 hL e1 hF
    obtain ⟨f1, f2⟩ := hF
    rw [h0] at f1 f2
    refine ⟨by rw [e1]; exact Nat.le_trans hS.1 f1, fun q h1 h2 => by rw [e1, f2 q (Nat.lt_of_lt_of_le h1 hS.1) h2]; exact hS.2.1 q h1 h2, fun q hq => ?_⟩
    rcases List.mem_append.mp hq with z | z
    · exact hS.2.2 q z
    · exact hL q z
  rcases hr T hT X with ⟨v, st₀, t, T', L, h0, X', hL, e1, e2, ⟨⟨v1, b, g1, g2, g3, g4⟩, hF⟩, st⟩ | ⟨q, st₀, t, T', L, E, ce, h0, X', hL, e1, e2, ⟨⟨E1, b, g1, g2, g3, g4⟩, hF⟩, hc1, hc2, hc3, st⟩
  · cases g2
    obtain ⟨t2, a1, b1⟩ := kr v1 b T'.heap (locs ++ L) g1 g3 (by rw [e1]; exact g4) (keep st₀ t T' L h0 hL e1 hF) T' rfl X'
    exact ⟨t2, st t2 a1, b1⟩
  · subst g2
    obtain ⟨t2, a1, b1⟩ := kx E1 b T'.heap (locs ++ L) q ce g1 g3 (by rw [e1]; exact g4) (keep st₀ t T' L h0 hL e1 hF) (by rw [e1]; exact hc1) hc2 hc3 T' rfl X'
    exact ⟨t2, st.trans a1, b1⟩
end CONT
set_option maxHeartbeats 4000000 in
theorem mm_runW {lawi : Nat} (hFall : mm_Fall lawi) : ∀ (f : Nat) {p : Program} {l : Launch} {e : Env} {R : Room} {s : State} {m : MethodId} {args : Array Value} {below : List Frame} {meth : Method} {c : Code} {Q : State → Prop}
    {cc : ByteArray} {M : mm_M} {d : Nat} {D : va_G} {cA : Nat → ClassId} {a0 a : Nat → Nat} {base L c0 s0 : Nat} {xs : Nat → Int32} {so : Option Nat} {pc : Nat} {lo : List (Option Value)} {st : List Value} {H H1 : mm_H} {Hp : Heap} {locs : List Loc} {ls : Array Slot} {o : Option Value ⊕ Nat},
    mm_run f d M pc lo st H = some (o, H1) → mm_Cx p l R s m args meth c cc M d D cA a0 base L xs so → mm_codeok cc M.2.2.2.2 → c.exceptionTable.toList = tableOf M.2.2.2.1 →
    mm_Pt s M.2.1 D cA a0 a base L xs so c0 s0 lo st H Hp locs ls → mm_nc H1 - c0 ≤ R.cells → mm_ns H1 - s0 ≤ R.slots →
    (∀ (b : Nat → Nat) (Hp1 : Heap) (locs1 : List Loc) (ls1 : Array Slot) (pc1 : Nat) (v : Option Value) (i : Instr), o = .inl v → mm_ext (mm_n H) a b → mm_P D cA b base H1 Hp1 → va_S (fun q => base ≤ q) s.heap Hp1 locs1 → decode cc pc1 = .ok (i, 1) → mm_end M.2.2.1 i v →
      W p l e R s m args below meth c Hp1 locs1 (mm_nc H1 - c0) (mm_ns H1 - s0) Q (F0 m pc1 ls1 (v.toList.map (mm_tr b)))) →
    (∀ E, o = .inr E → ∃ (Qc : Array Value → State → Outcome → State → Prop) (XC : String → State → State → Prop) (mc ms : Nat), Q = vx_MQ below Qc XC args s mc ms (fun q => base ≤ q) ∧ mm_nc H1 - c0 ≤ mc ∧ mm_ns H1 - s0 ≤ ms ∧
      ∀ (b : Nat → Nat) (t : State), mm_ext (mm_n H) a b → s.vm.Alike t.vm → mm_P D cA b base H1 t.heap → va_F (fun q => base ≤ q) s t → XC (mm_ename E) s t) →
    W p l e R s m args below meth c Hp locs (mm_nc H - c0) (mm_ns H - s0) Q (F0 m pc ls (st.map (mm_tr a))) := by
  obtain ⟨hF, hFM, hFL, hFX⟩ := id hFall
  have hFN := hF.1
  have hFA := hF.2.1
  have hFf : ∀ own i ci k ne, mm_tab mm_fldT own i = some (ci, k, ne) → ci < 13 := fun own i ci k ne h => by
    obtain ⟨r, -, -, g, -⟩ := hF.2.2.1 own i ci k ne h
    exact g
  intro f
  induction f with
  | zero => intro p l e R s m args below meth c Q cc M d D cA a0 a base L c0 s0 xs so pc lo st H H1 Hp locs ls o h; simp [mm_run] at h
  | succ f ih =>
    intro p l e R s m args below meth c Q cc M d D cA a0 a base L c0 s0 xs so pc lo st H H1 Hp locs ls o h hC hco htab hT hcR hsR hKr hKt
    -- a callee's contract
    have hmeth : ∀ {d1 mi : Nat} {M1 : mm_M} {y : MethodName} {b1 : ByteArray} {ret : Option FieldType} {As : List Value} {lo1 : List (Option Value)} {o2 : Option Value ⊕ Nat} {H2 : mm_H}, mi ≠ lawi → mm_at mm_prog mi = some M1 → mm_at mm_inf mi = some (y, b1, ret) → mm_enter As M1.2.1 = some lo1 →
        mm_run f d1 M1 0 lo1 [] H = some (o2, H2) → (∀ v ∈ As, mm_vv (mm_n H) v) →
        vx_Met l y (mm_wsm M1 y b1 ret) (mm_rm d1 H H2) (mm_Pc D cA base L xs so a As H) (mm_Qc D cA base a H o2 H2) (mm_XC D cA base a H o2 H2) (mm_nc H2 - mm_nc H) (mm_ns H2 - mm_ns H) (fun q => base ≤ q) := by
      intro d1 mi M1 y b1 ret As lo1 o2 H2 hmi hM1 hinf hent hrun hAs
      obtain ⟨m1, m2, m3, m4, m5, m6, m7, m8, m9⟩ := hFM mi M1 y b1 ret hmi hM1 hinf
      have hw := hT.1
      have hst := hC.2.2.2.2.2.2.2.2.2.1
      have body : ∀ (p : Program) (e : Env) (s : State) (m : MethodId) (args : Array Value) (below : List Frame) (meth : Method) (c : Code) (s₁ : State), BodyLoose p l y (headSpec (mm_wsm M1 y b1 ret) (mm_rm d1 H H2)) b1 M1.2.1 ret e s m args below meth c s₁ → c.maxLocals = M1.2.1 → c.exceptionTable.toList = tableOf M1.2.2.2.1 → mm_Pc D cA base L xs so a As H args s →
          W p l e (headSpec (mm_wsm M1 y b1 ret) (mm_rm d1 H H2)).room s m args below meth c s.heap [] 0 0 (vx_MQ below (mm_Qc D cA base a H o2 H2) (mm_XC D cA base a H o2 H2) args s (mm_nc H2 - mm_nc H) (mm_ns H2 - mm_ns H) (fun q => base ≤ q)) (entryFrame m args M1.2.1) := by
        intro p e s m args below meth c s₁ B hml ht hPc
        obtain ⟨rfl, hG, hP⟩ := hPc
        have hts0 := atoms_spec (ws := mm_wsm M1 y b1 ret) B.pre
        have hts : ∀ w ∈ mm_TW, w.before (As.map (mm_tr a)).toArray s = true := fun w hw => hts0 w (List.mem_cons_of_mem _ hw)
        have hown : s.vm.findClass (mm_cn M1.1) = some m.cls := m1 ▸ findClass_of_methodNamed B.named
        have hnm : meth.name = y.name := (name_of_methodNamed B.named B.method).1
        rw [lg_entry_eq]
        have r9 := ih (Q := vx_MQ below (mm_Qc D cA base a H o2 H2) (mm_XC D cA base a H o2 H2) (As.map (mm_tr a)).toArray s (mm_nc H2 - mm_nc H) (mm_ns H2 - mm_ns H) (fun q => base ≤ q)) (p := p) (l := l) (e := e) (R := (headSpec (mm_wsm M1 y b1 ret) (mm_rm d1 H H2)).room) (s := s) (m := m) (args := (As.map (mm_tr a)).toArray) (below := below) (meth := meth) (c := c) (cc := b1) (D := D) (cA := cA) (a0 := a) (a := a) (base := base) (L := L) (c0 := mm_nc H) (s0 := mm_ns H) (xs := xs) (so := so) (Hp := s.heap) (locs := []) hrun
          ⟨B.exec, B.bytes, hml, hown, hts, hG, Nat.le_refl _, Nat.le_refl _, B.notSynchronized, hst, fun z => hnm.trans (m8 z)⟩ m9 ht
          ⟨hw, mm_enter_vv hent hAs, mm_ext_refl _ _, hP, va_S.rf, mm_enter_lr hent, Nat.le_refl _, Nat.le_refl _⟩ (Nat.le_refl _) (Nat.le_refl _)
          (fun b Hp1 locs1 ls1 pc1 v i ho hext hP1 hS1 hdg hend => by
            have hx := B.exec
            have hb := B.bytes
            have hr := B.returns
            have hlk := B.notSynchronized
            have hq : ∀ t : State, t.heap = Hp1 → s.WarmedH t.vm → mm_Qc D cA base a H o2 H2 (As.map (mm_tr a)).toArray s (.returned (v.map (mm_tr b))) t := fun t ht _ => ⟨⟨v, b, ho, rfl, hext, by rw [ht]; exact hP1⟩, hS1.F ht⟩
            rcases hend with ⟨rfl, rfl, hk⟩ | ⟨rfl, x, rfl, hk⟩ | ⟨rfl, hk, w, rfl, hw1⟩
            · have hret : ret = none := by
                rcases m7 with ⟨-, z⟩ | ⟨z, -⟩ | ⟨z, -⟩ | ⟨z, -⟩ | ⟨z, -⟩ | ⟨z, -⟩
                · exact z
                all_goals (rw [z] at hk; rcases hk with hk | hk <;> cases hk)
              subst hret
              exact vx_ret (W.vret hx hb hr hq hS1.2.2 hdg hlk)
            · rcases hk with hk | ⟨hk, hx1⟩ | ⟨hk, hx1⟩ | ⟨hk, hx1⟩
              · have hret : ret = some .int := by
                  rcases m7 with ⟨z, -⟩ | ⟨-, z⟩ | ⟨z, -⟩ | ⟨z, -⟩ | ⟨z, -⟩ | ⟨z, -⟩
                  · rw [hk] at z; rcases z with z | z <;> cases z
                  · exact z
                  all_goals (rw [z] at hk; cases hk)
                subst hret
                exact vx_ret (W.iret hx hb hr hq hS1.2.2 hdg hlk)
              · have hret : ret = some .boolean := by
                  rcases m7 with ⟨z, -⟩ | ⟨z, -⟩ | ⟨-, z⟩ | ⟨z, -⟩ | ⟨z, -⟩ | ⟨z, -⟩
                  · rw [hk] at z; rcases z with z | z <;> cases z
                  · rw [z] at hk; cases hk
                  · exact z
                  all_goals (rw [z] at hk; cases hk)
                subst hret
                exact vx_ret (W.zret hx hb hr (mm_fit_bool hx1).1 hq hS1.2.2 hdg hlk)
              · have hret : ret = some .char := by
                  rcases m7 with ⟨z, -⟩ | ⟨z, -⟩ | ⟨z, -⟩ | ⟨z, -⟩ | ⟨-, z⟩ | ⟨z, -⟩
                  · rw [hk] at z; rcases z with z | z <;> cases z
                  · rw [z] at hk; cases hk
                  · rw [z] at hk; cases hk
                  · rw [z] at hk; cases hk
                  · exact z
                  · rw [z] at hk; cases hk
                subst hret
                exact vx_ret (W.zret hx hb hr (by have z := pk_nc x; rw [hx1] at z; exact z) hq hS1.2.2 hdg hlk)
              · have hret : ret = some .byte := by
                  rcases m7 with ⟨z, -⟩ | ⟨z, -⟩ | ⟨z, -⟩ | ⟨z, -⟩ | ⟨z, -⟩ | ⟨-, z⟩
                  · rw [hk] at z; rcases z with z | z <;> cases z
                  · rw [z] at hk; cases hk
                  · rw [z] at hk; cases hk
                  · rw [z] at hk; cases hk
                  · rw [z] at hk; cases hk
                  · exact z
                subst hret
                exact vx_ret (W.zret hx hb hr (by rcases hx1 with rfl | rfl <;> decide) hq hS1.2.2 hdg hlk)
            · obtain ⟨rt, hret, hrt⟩ : ∃ rt, ret = some rt ∧ mm_isRefT rt := by
                rcases m7 with ⟨z, -⟩ | ⟨z, -⟩ | ⟨z, -⟩ | ⟨-, z⟩ | ⟨z, -⟩ | ⟨z, -⟩
                · rw [hk] at z; rcases z with z | z <;> cases z
                · rw [z] at hk; cases hk
                · rw [z] at hk; cases hk
                · exact z
                · rw [z] at hk; cases hk
                · rw [z] at hk; cases hk
              subst hret
              refine vx_ret (W.aret (rt := rt) (v := mm_tr b w) hx hb hr hrt ?_ hq hS1.2.2 hdg hlk)
              rcases hw1 with rfl | ⟨x, rfl⟩
              · exact Or.inl rfl
              · exact Or.inr ⟨_, rfl⟩)
          (fun E ho => ⟨_, _, _, _, rfl, Nat.le_refl _, Nat.le_refl _, fun b t hext hvm hP1 hF1 => ⟨⟨E, b, ho, rfl, hext, hP1⟩, hF1⟩⟩)
        rw [Nat.sub_self, Nat.sub_self] at r9
        exact r9
      cases hhh : M1.2.2.2.1 with
      | nil =>
        have ew : mm_wsm M1 y b1 ret = Jvm.Cond.code y b1 M1.2.1 ret :: mm_TW := by unfold mm_wsm; rw [hhh]
        exact vx_ofW (cc := b1) (maxL := M1.2.1) (ret := ret) m2 ew (fun p e s m args below meth c s₁ B hml ht hPc => body p e s m args below meth c s₁ B hml (by
          rw [hhh]
          cases hq : c.exceptionTable.toList with
          | nil => rfl
          | cons x r => exact (ht x (by rw [hq]; exact List.mem_cons_self)).elim) hPc)
      | cons x r =>
        have ew : mm_wsm M1 y b1 ret = Jvm.Cond.codeWith y b1 M1.2.1 ret (x :: r) :: mm_TW := by unfold mm_wsm; rw [hhh]
        exact vx_ofWH (cc := b1) (maxL := M1.2.1) (ret := ret) (hh := x :: r) m2 ew (fun p e s m args below meth c s₁ B hml hPc => body p e s m args below meth c s₁ B hml (by
          rw [hhh]
          exact vx_table (x := y) B (atoms_spec (ws := mm_wsm M1 y b1 ret) B.pre _ (by rw [ew]; exact List.mem_cons_self))) hPc)
    have hrunok := mm_run_ok (L := L) (xs := xs) (so := so) hFN hFA hFf (f + 1) d M pc lo st H o H1 h hT.1 hT.2.1
    rw [mm_run] at h
    split at h
    · cases h
    · rename_i i len hlook
      obtain ⟨hd, hlen, hbk⟩ := hco _ (mm_look_mem _ _ _ hlook)
      dsimp only at hd hlen hbk
      split at h
      · cases h
      · -- goes on
        rename_i pc1 lo1 st1 H2 hstep
        obtain ⟨g1, g2, g3, g4⟩ := mm_step_ok hFN hFA hFf hT.1 hT.2.1 hstep
        have k9 := mm_run_ok (L := L) (xs := xs) (so := so) hFN hFA hFf f d M pc1 lo1 st1 H2 o H1 h g1 g3
        have hle := k9.2.1
        have e1 := hle.2.1
        have e2 := hle.2.2
        refine mm_stepW hF hC hstep hlen hbk hd hT (by dsimp only; omega) (by dsimp only; omega) (fun b Hp1 locs1 ls1 hext hP1 hS1 hl1 => ?_)
        have hc2 := hT.2.2.2.2.2.2.1
        have hs2 := hT.2.2.2.2.2.2.2
        have n1 := g2.1
        have n2 := g2.2.1
        have n3 := g2.2.2
        exact ih h hC hco htab ⟨g1, g3, mm_ext_trans hT.2.2.1 hext (Nat.zero_le _), hP1, hS1, hl1, Nat.le_trans hc2 n2, Nat.le_trans hs2 n3⟩ hcR hsR
          (fun b2 Hp2 locs2 ls2 pc2 v i2 ho hext2 hP2 hS2 hdg hend => hKr b2 Hp2 locs2 ls2 pc2 v i2 ho (mm_ext_trans hext hext2 n1) hP2 hS2 hdg hend)
          (fun E ho => by
            obtain ⟨Qc, XC, mc, ms, q1, q2, q3, q4⟩ := hKt E ho
            exact ⟨Qc, XC, mc, ms, q1, q2, q3, fun b2 t hext2 hvm hP2 hF2 => q4 b2 t (mm_ext_trans hext hext2 n1) hvm hP2 hF2⟩)
      · -- returns
        rename_i v hstep
        cases h
        obtain ⟨hend, hst9⟩ := mm_ret_in hstep
        subst hst9
        have hl1 : len = 1 := by
          rcases hend with ⟨rfl, -⟩ | ⟨rfl, -⟩ | ⟨rfl, -⟩ <;> simpa [mm_lenok] using hlen
        subst hl1
        exact hKr a Hp locs ls pc v i rfl (mm_ext_refl _ _) hT.2.2.2.1 hT.2.2.2.2.1 hd hend
      · -- throws
        rename_i E hstep
        cases h
        obtain ⟨j, ic, rfl, t1, t2, t3, t4, t5, t6, t7⟩ := mm_thr_in hstep
        obtain ⟨x1, x2, x3, x4, x5, x6, x7⟩ := hFX.2 _ _ _ _ t1
        obtain ⟨Qc, XC, mc, ms, rfl, q2, q3, q4⟩ := hKt E rfl
        obtain ⟨hx, hb, hml, hown, hts, hG, hRf, hRl, hlk, hst, hini⟩ := hC
        obtain ⟨hw, hv, he, hP, hS, hl, hc0, hs0⟩ := hT
        have hl3 : len = 3 := by simpa [mm_lenok] using hlen
        subst hl3
        have q2 : mm_nc H + 1 - c0 ≤ mc := q2
        have q3 : mm_ns H + 6 - s0 ≤ ms := q3
        have hcR : mm_nc H + 1 - c0 ≤ R.cells := hcR
        have hsR : mm_ns H + 6 - s0 ≤ R.slots := hsR
        have h0 : ((st.map (mm_tr a)).map fun v => v.category).sum ≤ 8 := by rw [mm_cat_sum]; exact t2
        exact vx_throw0 (names := mm_nms) (A := fun q => base ≤ q) hx hb hst hown x5 x6 (hts _ x2) (hts _ x3) (fun w hw => hts w (x4 w hw)) x7 hG.2.2.1.1 hG.2.2.1.2 hS (by rw [hml]; exact hl.2.1) hd (hco _ (mm_look_mem _ _ _ t4)).1 (hco _ (mm_look_mem _ _ _ t5)).1 (hco _ (mm_look_mem _ _ _ t6)).1
          (by rw [htab, t7]; intro x hx; cases hx) (by show 2 + 3 < R.frames; omega) (by show _ + (13 * (2 + 1) + 42) ≤ R.locals; omega) (by omega) (by omega) hlk
          (fun t hvm hz hk => q4 a t (mm_ext_refl _ _) hvm ⟨hP.1.kept (fun k q hq => hk q.1 ((hP.1 k q hq).lt)), hP.2⟩ ⟨Nat.le_trans hS.1 hz, fun q h1 h2 => by rw [hk q (Nat.lt_of_lt_of_le h1 hS.1)]; exact hS.2.1 q h1 h2⟩)
          hS.2.2 (by omega) (by omega)
      · -- calls
        rename_i mi As1 rest thr hstep
        obtain ⟨j, kind, n, ne, ci, c1, c2, c3, c4, c5⟩ := mm_cal_in hstep
        obtain ⟨-, -, c6, As, c7, c8⟩ := mm_call_in c3
        obtain ⟨gA, gR⟩ := mm_step_ok hFN hFA hFf hT.1 hT.2.1 hstep
        obtain ⟨hmi, M1', y, b1, ret, l1, l2, l3, l4, l5, l6, l7, l8, l9⟩ := hFL _ _ _ _ _ _ _ c1 c2
        split at h
        · cases h
        · rename_i d1
          split at h
          · cases h
          · rename_i M1 hM1
            rw [l1] at hM1
            cases hM1
            split at h
            · cases h
            · rename_i lo1 hlo1
              obtain ⟨m1, m2, m3, m4, m5, m6, m7, m8, m9⟩ := hFM mi M1' y b1 ret hmi l1 l2
              have hw := hT.1
              obtain ⟨hx, hb, hml, hown, hts, hG, hRf, hRl, hlk, hst, hini⟩ := id hC
              obtain ⟨-, hv, he, hP, hS, hl, hc0, hs0⟩ := id hT
              have hl3 : len = 3 := by rcases c4 with ⟨-, rfl⟩ | ⟨-, rfl⟩ | ⟨-, rfl⟩ <;> simpa [mm_lenok] using hlen
              subst hl3
              have hG2 : mm_G D cA a base L xs so s s.heap := hG.ext (n := 0) hw.2.2.2.2.2.2.2.2.1 he
              have hPcU : ∀ U : State, U.heap = Hp → s.WarmedH U.vm → mm_Pc D cA base L xs so a As1 H (As1.map (mm_tr a)).toArray U := fun U hU hW => ⟨rfl, by rw [hU]; exact hG2.on hW hS.1 (fun q z1 z2 => hS.2.1 q z1 z2), by rw [hU]; exact hP⟩
              have hsz : ls.size = M.2.1 := hl.2.1
              have hsum : ((rest.map (mm_tr a)).map fun v => v.category).sum ≤ 8 := by rw [mm_cat_sum]; exact c6
              have hlenA : (As.map (mm_tr a)).length = n := by rw [List.length_map]; exact c7
              have hpar : ∀ sig, parseMethodDescriptor y.desc = some sig → n = sig.parameters.length := fun sig z => by rw [z] at l3; exact (Option.some.inj l3).symm
              have hws : ∀ w ∈ mm_wsm M1' y b1 ret, ∀ (a' : Array Value) (U : State), s.WarmedH U.vm → w.before a' U = true := fun w hw a' U hW => mm_TWkeep hts hW w (m5 w hw) a'
              have hini2 := hts _ m4
              have hrooms : d1 + 1 ≤ R.frames ∧ 8 + (M1'.2.1 + 11) + 40 * d1 ≤ R.locals := ⟨hRf, by omega⟩
              have hcode : M1'.2.2.2.1 = [] → Jvm.Cond.code y b1 M1'.2.1 ret ∈ mm_wsm M1' y b1 ret := fun z => by unfold mm_wsm; rw [z]; exact List.mem_cons_self
              have hrecv : ∀ b, kind = 1 → (mm_sh H b).1 = ci → ∃ cellB : Cell, Hp[a b]? = some cellB ∧ cellB.vm.isStatics = false ∧ s.vm.findClass y.cls = some cellB.cls := by
                intro b hk hsh
                obtain ⟨-, l7b, -⟩ := l7 hk
                rcases l7b with ⟨z1, z2⟩ | ⟨z1, z2⟩
                · have hlt : b < mm_n H := mm_wf_lt hw (by omega)
                  have hcx := mm_ws_get (a := a) (cA := cA) hlt
                  rw [mm_cell_obj (by omega)] at hcx
                  obtain ⟨r0, g1⟩ : ∃ r0, mm_at mm_cl (mm_sh H b).1 = some r0 := by
                    rcases hw.2.2.2.1 b hlt with ⟨-, r1, g1, -⟩ | ⟨z, -⟩
                    · exact ⟨r1, g1⟩
                    · omega
                  have h9 := va_recv hG.2.1 hP.1 (mm_cl_get g1) hcx
                  have e9 : r0.1 = y.cls := by rw [(mm_cl_cn g1).1, hsh, z1, m1]
                  rw [← e9]
                  exact h9
                · have hq : 1000 ≤ b ∧ b < 1028 := by
                    have h9 : 1000 ≤ b := by
                      rcases Nat.lt_or_ge b 1000 with z | z
                      · exfalso
                        rcases Nat.lt_or_ge b (mm_n H) with y | y
                        · rcases hw.2.2.2.1 b y with ⟨g, -⟩ | ⟨g1, g2⟩ <;> omega
                        · have := hw.2.1 b y z; omega
                      · exact z
                    exact ⟨h9, hw.2.2.2.2.2.2.2.2.2.1 b h9 (by omega)⟩
                  obtain ⟨j1, hj1, rfl, -⟩ := mm_n1 b hq.1 hq.2
                  obtain ⟨⟨cellV, g1, g2, g3, g4⟩, -⟩ := hG2.2.2.2.2.1 j1 hj1
                  exact ⟨cellV, by rw [hS.2.1 _ (Array.getElem?_eq_some_iff.mp g1).1 g4]; exact g1, g2, by rw [m1, z2]; exact g3⟩
              split at h
              · cases h
              · rename_i v H2 hrun
                have hM := mm_toMet (hmeth hmi l1 l2 hlo1 hrun gA)
                obtain ⟨r1, r2, r3⟩ := mm_run_ok hFN hFA hFf _ _ _ _ _ _ _ _ _ hrun hw (mm_enter_vv hlo1 gA)
                have hv2 : mm_vok (mm_n H2) lo (v.toList ++ rest) := by
                  refine ⟨fun j x e => mm_vv_mono r2.1 (hv.1 j x e), fun x hx => ?_⟩
                  rcases List.mem_append.mp hx with hx | hx
                  · cases v with
                    | none => cases hx
                    | some w =>
                      have : x = w := by simpa using hx
                      subst this
                      exact r3 _ rfl
                  · exact mm_vv_mono r2.1 (gR x hx)
                have k9 := (mm_run_ok hFN hFA hFf _ _ _ _ _ _ _ _ _ h r1 hv2).2.1
                have q1 := r2.2.1
                have q2 := r2.2.2
                have q3 := k9.2.1
                have q4 := k9.2.2
                have hf : (mm_nc H - c0) + (mm_nc H2 - mm_nc H) ≤ R.cells ∧ (mm_ns H - s0) + (mm_ns H2 - mm_ns H) ≤ R.slots := ⟨mm_ar1 hc0 q1 q3 hcR, mm_ar1 hs0 q2 q4 hsR⟩
                have hrun9 : va_Run p l e R s m args below meth c Hp locs (mm_nc H - c0) (mm_ns H - s0) (mm_nc H2 - mm_nc H) (mm_ns H2 - mm_ns H) (F0 m pc ls (st.map (mm_tr a))) (rest.map (mm_tr a)) (mm_Qc D cA base a H (.inl v) H2 (As1.map (mm_tr a)).toArray) (fun q => base ≤ q) := by
                  rcases c8 with ⟨k0, rfl, e9⟩ | ⟨k0, b, rfl, e9, hci⟩
                  · have hstk : (F0 m pc ls (st.map (mm_tr a))).stack = (As1.map (mm_tr a)).reverse ++ rest.map (mm_tr a) := by show st.map (mm_tr a) = _; rw [e9, List.map_append, List.map_reverse]
                    have hd0 : decode cc pc = .ok (.invokestatic j, 3) := by
                      rcases c4 with ⟨-, rfl⟩ | ⟨z, -⟩ | ⟨z, -⟩
                      · exact hd
                      · omega
                      · omega
                    rcases l4 with ⟨-, hwd⟩ | ⟨z1, hwd⟩
                    · cases hhh : M1'.2.2.2.1 with
                      | nil => exact va_runS ⟨hx, hb, hml, hown, hts⟩ hM ⟨⟨rfl, rfl, hrooms.1, hrooms.2, hws, hcode hhh, hts _ (m5 _ (hcode hhh)), hini2, m3, hpar, hts _ hwd⟩, hts _ (l5 k0)⟩ ⟨mm_blind, hPcU⟩ rfl hlenA hsz hstk (lv_room hsum) hd0 hf
                      | cons x9 r9 =>
                        have hcw : Jvm.Cond.codeWith y b1 M1'.2.1 ret (x9 :: r9) ∈ mm_wsm M1' y b1 ret := by unfold mm_wsm; rw [hhh]; exact List.mem_cons_self
                        exact vx_runSW ⟨hx, hb, hml, hown, hts⟩ hM ⟨⟨rfl, rfl, hrooms.1, hrooms.2, hws, hcw⟩, hts _ (m5 _ hcw), hini2, m3, hpar, hts _ hwd, hts _ (l5 k0)⟩ ⟨mm_blind, hPcU⟩ rfl hlenA hsz hstk (lv_room hsum) hd0 hf
                    · have hhh := l9 z1
                      exact va_runSN ⟨hx, hb, hml, hown, hts⟩ hM ⟨⟨⟨rfl, rfl, hrooms.1, hrooms.2, hws, hcode hhh⟩, hts _ (m5 _ (hcode hhh)), hini2, m3, hpar, hts _ hwd⟩, hts _ (l5 k0), trivial⟩ ⟨mm_blind, hPcU⟩ rfl hlenA hsz hstk (lv_room hsum) hd0 hf
                  · have hstk : (F0 m pc ls (st.map (mm_tr a))).stack = (As.map (mm_tr a)).reverse ++ .ref (a b) :: rest.map (mm_tr a) := by show st.map (mm_tr a) = _; rw [e9, List.map_append, List.map_reverse]; rfl
                    by_cases hk1 : kind = 1
                    · obtain ⟨l7a, -, hhh⟩ := l7 hk1
                      have hd0 : decode cc pc = .ok (.invokevirtual j, 3) := by
                        rcases c4 with ⟨z, -⟩ | ⟨-, rfl⟩ | ⟨z, -⟩
                        · omega
                        · exact hd
                        · omega
                      rcases l4 with ⟨-, hwd⟩ | ⟨z1, hwd⟩
                      · exact va_runV (C := y.cls) ⟨hx, hb, hml, hown, hts⟩ hM ⟨⟨rfl, rfl, hrooms.1, hrooms.2, hws, hcode hhh, hts _ (m5 _ (hcode hhh)), hini2, m3, hpar, hts _ hwd⟩, hts _ (l6 k0), hts _ l7a⟩ ⟨mm_blind, hrecv b hk1 (hci hk1), hPcU⟩ rfl hlenA hsz hstk (lv_room hsum) hd0 hf
                      · exact va_runVN (C := y.cls) ⟨hx, hb, hml, hown, hts⟩ hM ⟨⟨⟨rfl, rfl, hrooms.1, hrooms.2, hws, hcode hhh⟩, hts _ (m5 _ (hcode hhh)), hini2, m3, hpar, hts _ hwd⟩, hts _ (l6 k0), hts _ l7a⟩ ⟨mm_blind, hrecv b hk1 (hci hk1), hPcU⟩ rfl hlenA hsz hstk (lv_room hsum) hd0 hf
                    · have hk2 : kind = 2 := by omega
                      obtain ⟨hin9, hhh, rfl⟩ := l8 hk2
                      have hd0 : decode cc pc = .ok (.invokespecial j, 3) := by
                        rcases c4 with ⟨z, -⟩ | ⟨z, -⟩ | ⟨-, rfl⟩
                        · omega
                        · omega
                        · exact hd
                      rcases l4 with ⟨-, hwd⟩ | ⟨z1, hwd⟩
                      · exact va_runI ⟨hx, hb, hml, hown, hts⟩ hM ⟨⟨rfl, rfl, hrooms.1, hrooms.2, hws, hcode hhh, hts _ (m5 _ (hcode hhh)), hini2, m3, hpar, hts _ hwd⟩, hin9, hts _ (l6 k0)⟩ ⟨mm_blind, hPcU⟩ rfl hlenA hsz hstk (lv_room hsum) hd0 hf
                      · exact va_runIN ⟨hx, hb, hml, hown, hts⟩ hM ⟨⟨⟨rfl, rfl, hrooms.1, hrooms.2, hws, hcode hhh⟩, hts _ (m5 _ (hcode hhh)), hini2, m3, hpar, hts _ hwd⟩, hin9, hts _ (l6 k0)⟩ ⟨mm_blind, hPcU⟩ rfl hlenA hsz hstk (lv_room hsum) hd0 hf
                refine mm_contW (mm_run_of hrun9) hS (fun v1 b Hp1 locs1 ho hext hP1 hS1 => ?_) (fun E b Hp1 locs1 q ce ho => by cases ho)
                cases ho
                have e1 : mm_nc H - c0 + (mm_nc H2 - mm_nc H) = mm_nc H2 - c0 := by omega
                have e2 : mm_ns H - s0 + (mm_ns H2 - mm_ns H) = mm_ns H2 - s0 := by omega
                have e3 : (v.map (mm_tr b)).toList ++ rest.map (mm_tr a) = (v.toList ++ rest).map (mm_tr b) := by
                  rw [List.map_append, mm_map_ext hext gR]
                  cases v <;> rfl
                rw [e1, e2, e3]
                exact ih h hC hco htab ⟨r1, hv2, mm_ext_trans he hext (Nat.zero_le _), hP1, hS1, mm_lr_extv hl hext hv.1, by omega, by omega⟩ hcR hsR
                  (fun b2 Hp2 locs2 ls2 pc2 v2 i2 ho hext2 hP2 hS2 hdg hend => hKr b2 Hp2 locs2 ls2 pc2 v2 i2 ho (mm_ext_trans hext hext2 r2.1) hP2 hS2 hdg hend)
                  (fun E ho => by
                    obtain ⟨Qc, XC, mc, ms, z1, z2, z3, z4⟩ := hKt E ho
                    exact ⟨Qc, XC, mc, ms, z1, z2, z3, fun b2 t hext2 hvm hP2 hF2 => z4 b2 t (mm_ext_trans hext hext2 r2.1) hvm hP2 hF2⟩)
              · rename_i E H2 hrun
                have hM := hmeth hmi l1 l2 hlo1 hrun gA
                obtain ⟨r1, r2, r3⟩ := mm_run_ok hFN hFA hFf _ _ _ _ _ _ _ _ _ hrun hw (mm_enter_vv hlo1 gA)
                have q1 := r2.2.1
                have q2 := r2.2.2
                have hrun9 : mm_nc H2 - c0 ≤ R.cells → mm_ns H2 - s0 ≤ R.slots → thr = true → M1'.2.2.2.1 = [] → vx_Run p l e R s m args below meth c Hp locs (mm_nc H - c0) (mm_ns H - s0) (mm_nc H2 - mm_nc H) (mm_ns H2 - mm_ns H) (F0 m pc ls (st.map (mm_tr a))) (rest.map (mm_tr a)) (mm_Qc D cA base a H (.inr E) H2 (As1.map (mm_tr a)).toArray) (mm_XC D cA base a H (.inr E) H2) (fun q => base ≤ q) := by
                  intro qc qs ht9 hhh
                  have hf : (mm_nc H - c0) + (mm_nc H2 - mm_nc H) ≤ R.cells ∧ (mm_ns H - s0) + (mm_ns H2 - mm_ns H) ≤ R.slots := ⟨mm_ar1 hc0 q1 (Nat.le_refl _) qc, mm_ar1 hs0 q2 (Nat.le_refl _) qs⟩
                  obtain ⟨hne, hk9⟩ := c5 ht9
                  have hwd : Jvm.Cond.methodLink (mm_cn M.1) j y ∈ mm_TW := by
                    rcases l4 with ⟨-, hwd⟩ | ⟨z, -⟩
                    · exact hwd
                    · omega
                  rcases c8 with ⟨k0, rfl, e9⟩ | ⟨k0, b, rfl, e9, hci⟩
                  · have hstk : (F0 m pc ls (st.map (mm_tr a))).stack = (As1.map (mm_tr a)).reverse ++ rest.map (mm_tr a) := by show st.map (mm_tr a) = _; rw [e9, List.map_append, List.map_reverse]
                    have hd0 : decode cc pc = .ok (.invokestatic j, 3) := by
                      rcases c4 with ⟨-, rfl⟩ | ⟨z, -⟩ | ⟨z, -⟩
                      · exact hd
                      · omega
                      · omega
                    exact vx_runS ⟨hx, hb, hml, hown, hts⟩ hM ⟨⟨rfl, rfl, hrooms.1, hrooms.2, hws, hcode hhh, hts _ (m5 _ (hcode hhh)), hini2, m3, hpar, hts _ hwd⟩, hts _ (l5 k0)⟩ ⟨mm_blind, hPcU⟩ rfl hlenA hsz hstk (lv_room hsum) hd0 hf
                  · have hstk : (F0 m pc ls (st.map (mm_tr a))).stack = (As.map (mm_tr a)).reverse ++ .ref (a b) :: rest.map (mm_tr a) := by show st.map (mm_tr a) = _; rw [e9, List.map_append, List.map_reverse]; rfl
                    have hk1 : kind = 1 := by omega
                    obtain ⟨l7a, -, -⟩ := l7 hk1
                    have hd0 : decode cc pc = .ok (.invokevirtual j, 3) := by
                      rcases c4 with ⟨z, -⟩ | ⟨-, rfl⟩ | ⟨z, -⟩
                      · omega
                      · exact hd
                      · omega
                    exact vx_runV (C := y.cls) ⟨hx, hb, hml, hown, hts⟩ hM ⟨⟨rfl, rfl, hrooms.1, hrooms.2, hws, hcode hhh, hts _ (m5 _ (hcode hhh)), hini2, m3, hpar, hts _ hwd⟩, hts _ (l6 k0), hts _ l7a⟩ ⟨mm_blind, hrecv b hk1 (hci hk1), hPcU⟩ rfl hlenA hsz hstk (lv_room hsum) hd0 hf
                have e1 : mm_nc H - c0 + (mm_nc H2 - mm_nc H) = mm_nc H2 - c0 := by omega
                have e2 : mm_ns H - s0 + (mm_ns H2 - mm_ns H) = mm_ns H2 - s0 := by omega
                split at h
                · rename_i t1 t2 t3
                  cases h
                  refine mm_contW (hrun9 hcR hsR rfl t2) hS (fun v1 b Hp1 locs1 ho => by cases ho) (fun E1 b Hp1 locs1 q ce ho hext hP1 hS1 z1 z2 z3 => ?_)
                  cases ho
                  obtain ⟨Qc, XC, mc, ms, rfl, y2, y3, y4⟩ := hKt E rfl
                  rw [e1, e2]
                  exact vx_out (by rw [htab, t3]; intro x hx; cases hx) hlk z1 z2 z3 (fun t ht hvm => y4 b t hext hvm (by rw [ht]; exact hP1) (hS1.F ht)) hS1.2.2 y2 y3
                · rename_i h9 hs9 t1 t2 t3
                  split at h
                  · cases h
                  · rename_i hp hhand
                    obtain ⟨pre, xa, xb, ct, suf, g1, g2, g3, g4⟩ := mm_hand_in _ _ _ _ _ hhand
                    obtain ⟨x1, x2, x3, x4⟩ := hFX.1 _ _ _ g3
                    have hcatch : ∀ {Hp1 : Heap} {locs1 : List Loc} {q : Addr} {ce : Cell} {cells slots : Nat}, Hp1[q]? = some ce → ce.vm = .none → s.vm.findClass (mm_ename E) = some ce.cls → W p l e R s m args below meth c Hp1 locs1 cells slots Q (F0 m hp ls [.ref q]) → vx_W p l e R s m args below meth c Hp1 locs1 cells slots Q (F0 m pc ls (rest.map (mm_tr a))) q := by
                      intro Hp1 locs1 q ce cells slots z1 z2 z3 kk
                      refine vx_catch (E := mm_ename E) (name := mm_ename E) hown (tableOf pre) ⟨xa, xb, hp, ct⟩ (tableOf suf) (by rw [htab, t3, g1]; simp [tableOf]) (fun z hz => ?_) (by simp [covers, g2.1, g2.2]) x2 (hts _ x3) (hts _ x4) z1 z2 z3 kk
                      obtain ⟨z', hz', rfl⟩ := List.mem_map.mp hz
                      rcases g4 z' hz' with g5 | ⟨g5, g6⟩
                      · left
                        by_cases y1 : z'.1 ≤ pc
                        · have y2 : ¬ pc < z'.2.1 := fun y2 => g5 ⟨y1, y2⟩
                          simp [covers, y2]
                        · simp [covers, y1]
                      · right
                        obtain ⟨w1, w2, w3, w4⟩ := hFX.1 _ _ _ g6
                        refine ⟨w2, _, hts _ w3, ?_⟩
                        rw [g5]
                        exact hG.2.2.2.2.2.2.2.2
                    split at h
                    · rename_i k9 hk9
                      have hdk := (hco _ (mm_look_mem _ _ _ hk9)).1
                      split at h
                      · cases h
                      · rename_i hlg
                        split at h
                        · rename_i hlt
                          have hv3 : mm_vok (mm_n H2) (mm_set lo k9.val none) [] := mm_vok_set (st := []) (mm_vok_mono r2.1 ⟨hv.1, fun x hx => by cases hx⟩) hlt (fun x e => by cases e) (fun x hx => by cases hx)
                          have w9 := (mm_run_ok hFN hFA hFf _ _ _ _ _ _ _ _ _ h r1 hv3).2.1
                          have q3 := w9.2.1
                          have q4 := w9.2.2
                          refine mm_contW (hrun9 (mm_ar2 q3 hcR) (mm_ar2 q4 hsR) rfl t2) hS (fun v1 b Hp1 locs1 ho => by cases ho) (fun E1 b Hp1 locs1 q ce ho hext hP1 hS1 z1 z2 z3 => ?_)
                          cases ho
                          rw [e1, e2]
                          refine hcatch z1 z2 z3 ?_
                          have hl2 := mm_lr_extv hl hext hv.1
                          exact lv_astore_n hx hb hdk rfl (mm_lr_has hl2) (by rw [← hl.1]; exact hlt) rfl (fun ls1 hl1 => ih h hC hco htab ⟨r1, hv3, mm_ext_trans he hext (Nat.zero_le _), hP1, hS1, mm_lr_sto hl2 hlt hlg (fun x e => by cases e) hl1, by omega, by omega⟩ hcR hsR
                            (fun b2 Hp2 locs2 ls2 pc2 v2 i2 ho hext2 hP2 hS2 hdg hend => hKr b2 Hp2 locs2 ls2 pc2 v2 i2 ho (mm_ext_trans hext hext2 r2.1) hP2 hS2 hdg hend)
                            (fun E ho => by
                              obtain ⟨Qc, XC, mc, ms, z1, z2, z3, z4⟩ := hKt E ho
                              exact ⟨Qc, XC, mc, ms, z1, z2, z3, fun b2 t hext2 hvm hP2 hF2 => z4 b2 t (mm_ext_trans hext hext2 r2.1) hvm hP2 hF2⟩))
                        · cases h
                    · rename_i k9 hk9
                      have hdk := (hco _ (mm_look_mem _ _ _ hk9)).1
                      split at h
                      · cases h
                      · rename_i hlg
                        split at h
                        · rename_i hlt
                          have hv3 : mm_vok (mm_n H2) (mm_set lo k9 none) [] := mm_vok_set (st := []) (mm_vok_mono r2.1 ⟨hv.1, fun x hx => by cases hx⟩) hlt (fun x e => by cases e) (fun x hx => by cases hx)
                          have w9 := (mm_run_ok hFN hFA hFf _ _ _ _ _ _ _ _ _ h r1 hv3).2.1
                          have q3 := w9.2.1
                          have q4 := w9.2.2
                          refine mm_contW (hrun9 (mm_ar2 q3 hcR) (mm_ar2 q4 hsR) rfl t2) hS (fun v1 b Hp1 locs1 ho => by cases ho) (fun E1 b Hp1 locs1 q ce ho hext hP1 hS1 z1 z2 z3 => ?_)
                          cases ho
                          rw [e1, e2]
                          refine hcatch z1 z2 z3 ?_
                          have hl2 := mm_lr_extv hl hext hv.1
                          exact lv_astore hx hb hdk (mm_lr_has hl2) (by rw [← hl.1]; exact hlt) rfl (fun ls1 hl1 => ih h hC hco htab ⟨r1, hv3, mm_ext_trans he hext (Nat.zero_le _), hP1, hS1, mm_lr_sto hl2 hlt hlg (fun x e => by cases e) hl1, by omega, by omega⟩ hcR hsR
                            (fun b2 Hp2 locs2 ls2 pc2 v2 i2 ho hext2 hP2 hS2 hdg hend => hKr b2 Hp2 locs2 ls2 pc2 v2 i2 ho (mm_ext_trans hext hext2 r2.1) hP2 hS2 hdg hend)
                            (fun E ho => by
                              obtain ⟨Qc, XC, mc, ms, z1, z2, z3, z4⟩ := hKt E ho
                              exact ⟨Qc, XC, mc, ms, z1, z2, z3, fun b2 t hext2 hvm hP2 hF2 => z4 b2 t (mm_ext_trans hext hext2 r2.1) hvm hP2 hF2⟩))
                        · cases h
                    · cases h
                · cases h
