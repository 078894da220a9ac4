/-! lines, by what they tell -/
def lo_k (B : Int → Int) (n : Int) (ld : Nat) (d : Int) (q : Int × mz_G) (gB : mz_G) : Prop := (q.1 = 1 ∧ ln_k B n q.2 gB ∧ td_k ld q.2 gB d) ∨ (q.1 = 0 ∧ fa_k q.2 gB)
theorem lo_bl {B : Int → Int} {n : Int} {ld : Nat} {d v : Int} {gA gB : mz_G} (h : ln_k B n gA gB) (hv : v ≠ 0) : lo_k B n ld d (zF_X4_blame v gA) (zF_X12_wrong v gB) := by
  rw [X4_blame]
  exact Or.inr ⟨rfl, fa_blame h hv⟩
theorem tkA {ld : Nat} (hld : ld = 1 ∨ ld = 41) {g g1 : mz_G} (f : mz_fr fw_tk g g1) : mz_fr (wTA ld) g g1 := fr_le f (fun a b z => by unfold fw_tk at z; unfold wTA; omega)
theorem rtB {g g1 : mz_G} (f : mz_fr fw_rt g g1) : mz_fr wTB g g1 := fr_le f (fun a b z => by unfold fw_rt at z; unfold wTB; omega)
theorem ln8 {ld w : Nat} (hld : ld = 1 ∨ ld = 41) (hw : w < 8) : zf_ln (ld + 10 + 2 * w) = 8 := by
  unfold zf_ln
  rw [if_neg (by omega), if_neg (by omega)]
theorem let_of {B : Int → Int} {n p b e nu : Int} (h : tk_tok B n p b e 1 nu) : tk_run tk_let B n b e := by
  obtain ⟨a1, a2, a3, a4, a5⟩ := h
  have l := a1.2.1
  by_cases z : b = n
  · have := (a2 z).1; omega
  · have z : b < n := by omega
    by_cases z1 : tk_let (B b)
    · exact (a3 z z1).2
    · by_cases z2 : tk_dig (B b)
      · have := (a4 z z2).1; omega
      · have := a5 z z1 z2
        by_cases z3 : tk_sgn (B b)
        · have := this.2.1 z3
          unfold tk_sgn at z3
          omega
        · have := this.2.2 z3
          omega
section LO
variable {B : Int → Int} {n : Int} {ld : Nat} {d : Int} {gA gB : mz_G}
theorem another_k {k most : Int} (hb : gB 137 22 = 0) : (gB 140 (4 + k).toNat = most → zF_X12_another k most gB = (0, zF_X12_wrong 2 gB)) ∧ (gB 140 (4 + k).toNat ≠ most → zF_X12_another k most gB = (1, zF_X12_stepOn gB)) := by
  unfold zF_X12_another zJ_X12_another_17
  simp only [zf_lq]
  refine ⟨fun e => ?_, fun e => ?_⟩
  · rw [if_pos e, if_neg (by rw [(wrong_at hb).1]; decide)]
  · rw [if_neg e, if_pos hb]
/-- a word more is told -/
theorem td_addword {d L v : Int} {a2 b2 a' b' : mz_G} {c : Nat} (hld : ld = 1 ∨ ld = 41) (t : td_k ld a2 b2 d) (e4 : b2 140 4 = (c : Int)) (c8 : (c : Int) < 8)
    (cA : ∀ a b : Nat, a ≠ 82 → a ≠ ld + 10 + 2 * c → a ≠ ld + 11 + 2 * c → a ≠ ld + 5 → a ≠ ld + 1 → a' a b = a2 a b)
    (n3 : a' (ld + 1) 3 = (c : Int) + 1) (n5 : a' (ld + 5) c = v) (n5' : ∀ i : Nat, i ≠ c → a' (ld + 5) i = a2 (ld + 5) i)
    (m1 : a' (ld + 10 + 2 * c) 1 = L) (hL : 1 ≤ L ∧ L ≤ 8) (m2 : ∀ j : Nat, (j : Int) < L → a' (ld + 11 + 2 * c) j = b' 141 (64 + 8 * c + j) ∧ 1 ≤ b' 141 (64 + 8 * c + j) ∧ b' 141 (64 + 8 * c + j) ≤ 26)
    (cB : ∀ a b : Nat, a ≠ 137 → a ≠ 140 → a ≠ 141 → a ≠ 142 → a ≠ 143 → b' a b = b2 a b) (cB0 : ∀ j : Nat, j ≠ 4 → b' 140 j = b2 140 j) (k4 : b' 140 4 = (c : Int) + 1)
    (k2 : b' 142 (8 + c) = L) (k2' : ∀ j : Nat, j ≠ 8 + c → b' 142 j = b2 142 j) (k3 : b' 143 (8 + c) = v) (k3' : ∀ j : Nat, j ≠ 8 + c → b' 143 j = b2 143 j)
    (k1 : ∀ j : Nat, (j : Int) < 64 + 8 * c → b' 141 j = b2 141 j) : td_k ld a' b' d := by
  obtain ⟨⟨w1', w2', w3', w4'⟩, ⟨p1, p2, p3, p4⟩, ⟨y1, y2, y3, y4⟩, ⟨z1, z2, z3⟩, d1, d2, d3⟩ := t
  rw [e4] at w4'
  refine ⟨⟨?_, ?_, ?_, fun i hi => ?_⟩, ⟨?_, ?_, ?_, fun i hi => ?_⟩, ⟨?_, ?_, ?_, fun i hi => ?_⟩, ⟨?_, ?_, fun i hi => ?_⟩, d1, ?_, ?_⟩
  · rw [n3, k4]
  · rw [k4]; omega
  · rw [k4]; omega
  · rw [k4] at hi
    by_cases ic : i = c
    · rw [ic, m1, k2, n5, k3]
      exact ⟨rfl, hL.1, hL.2, m2, rfl⟩
    · obtain ⟨u1, u2, u3, u4, u5⟩ := w4' i (by omega)
      rw [k2' (8 + i) (by omega), cA _ _ (by omega) (by omega) (by omega) (by omega) (by omega), n5' i ic, k3' (8 + i) (by omega)]
      refine ⟨u1, u2, u3, fun j hj => ?_, u5⟩
      rw [k1 _ (by omega), cA _ _ (by omega) (by omega) (by omega) (by omega) (by omega)]
      exact u4 j hj
  · rw [cB0 5 (by decide), cA _ _ (by omega) (by omega) (by omega) (by omega) (by omega)]; exact p1
  · rw [cB0 5 (by decide)]; exact p2
  · rw [cB0 5 (by decide)]; exact p3
  · rw [cB0 5 (by decide)] at hi
    have r1 : ∀ j : Nat, a' (ld + 29 + i) j = a2 (ld + 29 + i) j := fun j => cA _ _ (by omega) (by omega) (by omega) (by omega) (by omega)
    have r2 : ∀ a j : Nat, 144 ≤ a → b' a j = b2 a j := fun a j h => cB a j (by omega) (by omega) (by omega) (by omega) (by omega)
    rw [r1, r1, r1, r1, r1, r2 145 _ (by decide), r2 146 _ (by decide), r2 147 _ (by decide), r2 144 _ (by decide), k4]
    obtain ⟨m1, m2, m3, m4, m5, m6, m7, m8⟩ := p4 i hi
    rw [e4] at m6 m7
    exact ⟨m1, m2, m3, m4, m5, ⟨m6.1, by omega⟩, ⟨m7.1, by omega⟩, m8⟩
  · rw [cB0 6 (by decide), cA _ _ (by omega) (by omega) (by omega) (by omega) (by omega)]; exact y1
  · rw [cB0 6 (by decide)]; exact y2
  · rw [cB0 6 (by decide)]; exact y3
  · rw [cB0 6 (by decide)] at hi
    rw [cA _ _ (by omega) (by omega) (by omega) (by omega) (by omega), cB 148 _ (by decide) (by decide) (by decide) (by decide) (by decide)]
    exact y4 i hi
  · rw [cB0 7 (by decide), cA _ _ (by omega) (by omega) (by omega) (by omega) (by omega)]; exact z1
  · rw [cB0 7 (by decide)]; exact z2
  · rw [cB0 7 (by decide)] at hi
    rw [cA _ _ (by omega) (by omega) (by omega) (by omega) (by omega), cB 149 _ (by decide) (by decide) (by decide) (by decide) (by decide)]
    exact z3 i hi
  · rw [cB0 6 (by decide)]; exact d2
  · rw [cB0 7 (by decide)]; exact d3
theorem line_word (hn : n ≤ 700) (hB : ∀ a, 0 ≤ B a) (hld : ld = 1 ∨ ld = 41) (h : ln_k B n gA gB) (t : td_k ld gA gB d) : lo_k B n ld d (zF_X4_readWord (ld + 1) gA) (zF_X12_sayWord gB) := by
  have hb := h.2.2.2.2
  have t0 := t
  obtain ⟨⟨w1, w2, w3, w4⟩, -⟩ := t0
  obtain ⟨o1, o2⟩ := another_k (k := 0) (most := 8) hb
  unfold zF_X4_readWord zF_X12_sayWord zF_X10_many zF_X7_kind zF_X7_tokenSize
  simp only [zf_lq]
  rw [w1]
  by_cases c8 : gB 140 4 < 8
  · rw [if_pos c8, o2 (by show gB 140 4 ≠ 8; omega)]
    unfold zf_m2
    dsimp only
    rw [if_neg (show ¬ (1 : Int) = 0 by decide)]
    obtain ⟨h2, fA, fB⟩ := ln_step hn hB h
    have t2 := td_fr t (tkA hld fA) (rtB fB)
    generalize zF_X7_step gA = a2 at *
    generalize zF_X12_stepOn gB = b2 at *
    have e := ln_eq h2
    have l := ln_len h2
    have hb2 := h2.2.2.2.2
    have k1 := (rs_kd h2.2.1).1
    rw [e.2.2.1] at k1
    have h5 := h2.2.1.2.2.2.2.1
    have e4 : b2 140 4 = gB 140 4 := fB 140 4 (by unfold fw_rt; omega)
    have ec : a2 (ld + 1) 3 = gB 140 4 := by rw [t2.1.1, e4]
    rw [h5, e.1, e.2.1, e4]
    by_cases kd1 : a2 82 4 = 1
    · rw [if_pos kd1, if_pos (k1.mp kd1)]
      by_cases n8 : 8 < a2 82 3 - a2 82 5
      · rw [if_pos n8, if_pos n8]
        unfold zJ_X12_sayWord_74
        simp only [zf_lq]
        rw [if_neg (by rw [(wrong_at hb2).1]; decide)]
        exact lo_bl h2 (by decide)
      · rw [if_neg n8, if_neg n8, ec, X10_of w2 c8]
        obtain ⟨c, hc⟩ : ∃ c : Nat, gB 140 4 = (c : Int) := ⟨(gB 140 4).toNat, by omega⟩
        rw [hc] at ec e4 c8 ⊢
        rw [show ((c : Int)).toNat = c by omega, show ld + 1 + 9 + 2 * c = ld + 10 + 2 * c by omega]
        have z8 := ln8 (w := c) hld (by omega)
        have sp := X7_spellInto (u := ld + 10 + 2 * c) (g := a2) (by omega) (by omega) (by omega) (by omega) (by rw [z8]; omega)
        rw [h2.1.1] at sp
        generalize hg9 : zF_X7_spellInto (ld + 10 + 2 * c) a2 = a9 at *
        obtain ⟨⟨s1, s2⟩, s3⟩ := sp
        have h9 : ln_k B n a9 b2 := ln_A h2 (fr_le s3 (fun a b z => by unfold wA; omega))
        have lt := l.2.2.2 (by rw [kd1]; decide)
        have eA : ∀ a b : Nat, a ≠ ld + 10 + 2 * c → a ≠ ld + 10 + 2 * c + 1 → a9 a b = a2 a b := fun a b x y => s3 a b (by omega)
        have e9c : a9 (ld + 1) 3 = (c : Int) := by rw [eA _ _ (by omega) (by omega)]; exact ec
        have e82 : ∀ b : Nat, a9 82 b = a2 82 b := fun b => eA 82 b (by omega) (by omega)
        have has := X10_has (q0 := ld + 1) (q1 := ld + 10 + 2 * c) (g := a9) (by rw [e9c]; omega) (fun w hw => by
          rw [e9c] at hw
          rw [show ld + 1 + 9 + 2 * w = ld + 10 + 2 * w by omega, ln8 hld (by omega), eA _ _ (by omega) (by omega), (t2.1.2.2.2 w (by rw [e4]; exact hw)).1]
          exact (t2.1.2.2.2 w (by rw [e4]; exact hw)).2.2.1) (by rw [z8, s1]; omega)
        have tol := X12_isToldAhead (n := a2 82 3 - a2 82 5) (g := b2) (by omega) (by omega) (by omega)
        have eq : (∃ w : Nat, (w : Int) < a9 (ld + 1) 3 ∧ sm_k a9 (ld + 1 + 9 + 2 * w) (ld + 10 + 2 * c)) ↔ (∃ w : Nat, (w : Int) < b2 140 4 ∧ ta_k b2 (a2 82 3 - a2 82 5) w) := by
          rw [e9c, e4]
          have one : ∀ w : Nat, w < c → (sm_k a9 (ld + 1 + 9 + 2 * w) (ld + 10 + 2 * c) ↔ ta_k b2 (a2 82 3 - a2 82 5) w) := by
            intro w hw
            obtain ⟨u1, u2, u3, u4, u5⟩ := t2.1.2.2.2 w (by rw [e4]; omega)
            have x1 : a9 (ld + 10 + 2 * w) 1 = b2 142 (8 + w) := by rw [eA _ _ (by omega) (by omega)]; exact u1
            have x2 : ∀ j : Nat, (j : Int) < b2 142 (8 + w) → a9 (ld + 10 + 2 * w + 1) j = b2 141 (64 + 8 * w + j) := fun j hj => by
              rw [eA _ _ (by omega) (by omega), show ld + 10 + 2 * w + 1 = ld + 11 + 2 * w by omega]
              exact (u4 j hj).1
            unfold sm_k ta_k
            rw [show ld + 1 + 9 + 2 * w = ld + 10 + 2 * w by omega, x1, s1]
            constructor
            · rintro ⟨y1, y2⟩
              refine ⟨y1, fun j hj => ?_⟩
              have := y2 j (by rw [y1]; exact hj)
              rw [x2 j (by rw [y1]; exact hj), s2 j hj] at this
              rw [h2.2.1.1, e.1]
              exact this
            · rintro ⟨y1, y2⟩
              refine ⟨y1, fun j hj => ?_⟩
              rw [x2 j hj, s2 j (by rw [← y1]; exact hj)]
              have := y2 j (by rw [← y1]; exact hj)
              rw [h2.2.1.1, e.1] at this
              exact this
          constructor
          · rintro ⟨w, a, b⟩
            exact ⟨w, a, (one w (by omega)).mp b⟩
          · rintro ⟨w, a, b⟩
            exact ⟨w, a, (one w (by omega)).mpr b⟩
        by_cases al : ∃ w : Nat, (w : Int) < b2 140 4 ∧ ta_k b2 (a2 82 3 - a2 82 5) w
        · rw [has.1 (eq.mpr al), if_neg (by decide), tol.1 al, if_neg (by decide)]
          unfold zJ_X12_sayWord_74
          simp only [zf_lq]
          rw [if_neg (by rw [(wrong_at hb2).1]; decide)]
          exact lo_bl h9 (by decide)
        · rw [has.2 (fun z => al (eq.mp z)), if_pos rfl, tol.2 al, if_pos rfl]
          clear has tol eq al
          unfold zJ_X12_sayWord_74
          simp only [zf_lq]
          rw [if_pos hb2]
          obtain ⟨b3, q1, q2, q3, q4⟩ := L12_word84 (l1 := 8 + (c : Int)) (l2 := a2 82 3 - a2 82 5) (g0 := b2) (by omega) 100 3000000000 0 b2 (by omega) (by decide) (Int.le_refl _) (by decide) fr_rf (fun j a => by omega) (fun j _ => rfl)
          rw [q1]
          unfold wc_k
          simp only [zf_lq]
          have hB12 : mz_fr (fun a _ => a = 141 ∨ a = 142) b2 (mz_up b3 142 (8 + (c : Int)).toNat (a2 82 3 - a2 82 5)) := fr_tr (fr_le q2 (fun a b z => Or.inl z)) (fr_up (Or.inr rfl))
          have h12 : ln_k B n a9 (mz_up b3 142 (8 + (c : Int)).toNat (a2 82 3 - a2 82 5)) := ln_B h9 (fr_le hB12 (fun a b z => by unfold wB; omega))
          have l142 : ∀ j : Nat, j ≠ 8 + c → mz_up b3 142 (8 + (c : Int)).toNat (a2 82 3 - a2 82 5) 142 j = b2 142 j := fun j hj => (up_j (by omega)).trans (q2 142 j (show ¬ (142 : Nat) = 141 by decide))
          have l142c : mz_up b3 142 (8 + (c : Int)).toNat (a2 82 3 - a2 82 5) 142 (8 + c) = a2 82 3 - a2 82 5 := by rw [show (8 + (c : Int)).toNat = 8 + c by omega, mz_up_at]
          have l141 : ∀ j : Nat, mz_up b3 142 (8 + (c : Int)).toNat (a2 82 3 - a2 82 5) 141 j = b3 141 j := fun j => up_k (by decide)
          generalize mz_up b3 142 (8 + (c : Int)).toNat (a2 82 3 - a2 82 5) = b12 at *
          obtain ⟨h13, fA3, fB3⟩ := ln_step hn hB h12
          have nbad := fun (x : mz_G) (y : x 137 22 ≠ 0) => num_bad y (a := 0) (b := 9)
          rcases rn_k hn hB (most := 9) h13 with ⟨v, r1, r2, r3, r4⟩ | ⟨f, a, b, hf, r1, r2, r3⟩
          · rw [r1, r2]
            unfold zf_m2
            dsimp only
            rw [if_neg (by omega)]
            obtain ⟨h14, fA4, fB4⟩ := ln_step hn hB h13
            have gA4 : mz_fr fw_tk a9 (zF_X7_step (zF_X7_step a9)) := fr_tr fA3 fA4
            have gB4 : mz_fr fw_rt b12 (zF_X12_stepOn (zF_X12_stepOn b12)) := fr_tr fB3 fB4
            generalize zF_X7_step (zF_X7_step a9) = a14 at *
            generalize zF_X12_stepOn (zF_X12_stepOn b12) = b14 at *
            unfold zJ_X4_readWord_113
            rw [if_neg (by omega)]
            have ec14 : a14 (ld + 1) 3 = (c : Int) := by rw [gA4 _ _ (by unfold fw_tk; omega)]; exact e9c
            have eT : zF_X10_takeNext (ld + 1) v a14 = mz_up (mz_up a14 (ld + 5) c v) (ld + 1) 3 ((c : Int) + 1) := by
              unfold zF_X10_takeNext
              simp only [zf_lq]
              rw [ec14, if_pos c8, X11_put (by omega) (by omega), show ((c : Int)).toNat = c by omega, show ld + 1 + 4 = ld + 5 by omega, show mz_up a14 (ld + 5) c v (ld + 1) 3 = (c : Int) from (up_k (by omega)).trans ec14]
            rw [eT]
            have e8 : (8 + (c : Int)).toNat = 8 + c := by omega
            have e140 : mz_up b14 143 (8 + c) v 140 4 = (c : Int) := (up_k (by decide)).trans ((gB4 140 4 (by unfold fw_rt; omega)).trans ((hB12 140 4 (by decide)).trans e4))
            rw [e8, e140]
            show lo_k B n ld d (1, mz_up (mz_up a14 (ld + 5) c v) (ld + 1) 3 ((c : Int) + 1)) (mz_up (mz_up b14 143 (8 + c) v) 140 4 ((c : Int) + 1))
            refine Or.inl ⟨rfl, ?_, ?_⟩
            · refine ln_B (ln_A h14 ?_) ?_
              · exact fr_tr (fr_up (by unfold wA; omega)) (fr_up (by unfold wA; omega))
              · exact fr_tr (fr_up (by unfold wB; omega)) (fr_up (by unfold wB; omega))
            · show td_k ld (mz_up (mz_up a14 (ld + 5) c v) (ld + 1) 3 ((c : Int) + 1)) (mz_up (mz_up b14 143 (8 + c) v) 140 4 ((c : Int) + 1)) d
              have cA : ∀ a b : Nat, a ≠ 82 → a ≠ ld + 10 + 2 * c → a ≠ ld + 11 + 2 * c → a14 a b = a2 a b := fun a b x y z => (gA4 a b (by unfold fw_tk; omega)).trans (eA a b y (by omega))
              have cB : ∀ a b : Nat, a ≠ 137 → a ≠ 141 → a ≠ 142 → b14 a b = b2 a b := fun a b x y z => (gB4 a b (by unfold fw_rt; omega)).trans (hB12 a b (by omega))
              have f142 : ∀ j : Nat, mz_up (mz_up b14 143 (8 + c) v) 140 4 ((c : Int) + 1) 142 j = b12 142 j := fun j => (up_k (by decide)).trans ((up_k (by decide)).trans (gB4 142 _ (by unfold fw_rt; omega)))
              have f141 : ∀ j : Nat, mz_up (mz_up b14 143 (8 + c) v) 140 4 ((c : Int) + 1) 141 j = b3 141 j := fun j => (up_k (by decide)).trans ((up_k (by decide)).trans ((gB4 141 _ (by unfold fw_rt; omega)).trans (l141 j)))
              have f143 : ∀ j : Nat, mz_up (mz_up b14 143 (8 + c) v) 140 4 ((c : Int) + 1) 143 j = mz_up b14 143 (8 + c) v 143 j := fun j => up_k (by decide)
              have fA1 : ∀ j : Nat, mz_up (mz_up a14 (ld + 5) c v) (ld + 1) 3 ((c : Int) + 1) (ld + 10 + 2 * c) j = a9 (ld + 10 + 2 * c) j := fun j => (up_k (by omega)).trans ((up_k (by omega)).trans (gA4 _ _ (by unfold fw_tk; omega)))
              have fA2 : ∀ j : Nat, mz_up (mz_up a14 (ld + 5) c v) (ld + 1) 3 ((c : Int) + 1) (ld + 11 + 2 * c) j = a9 (ld + 10 + 2 * c + 1) j := fun j => (up_k (by omega)).trans ((up_k (by omega)).trans ((gA4 _ _ (by unfold fw_tk; omega)).trans (by rw [show ld + 11 + 2 * c = ld + 10 + 2 * c + 1 by omega])))
              refine td_addword (L := a2 82 3 - a2 82 5) (v := v) hld t2 e4 c8 (fun a b x1 x2 x3 x4 x5 => (up_k x5).trans ((up_k x4).trans (cA a b x1 x2 x3))) (mz_up_at ..) ((up_k (by omega)).trans (mz_up_at ..)) (fun i hi => (up_k (by omega)).trans ((up_j hi).trans (cA _ _ (by omega) (by omega) (by omega)))) ((fA1 1).trans s1) ⟨by omega, by omega⟩ (fun j hj => ?_) (fun a b x1 x2 x3 x4 x5 => (up_k x2).trans ((up_k x5).trans (cB a b x1 x3 x4))) (fun j hj => (up_j hj).trans ((up_k (by decide)).trans (cB 140 j (by decide) (by decide) (by decide)))) (mz_up_at ..) ((f142 _).trans l142c) (fun j hj => (f142 j).trans (l142 j hj)) ((f143 _).trans (mz_up_at ..)) (fun j hj => (f143 j).trans ((up_j hj).trans (cB 143 j (by decide) (by decide) (by decide)))) (fun j hj => (f141 j).trans (q4 j (by omega)))
              rw [fA2, f141, s2 j hj, show 64 + 8 * c + j = (8 * (8 + (c : Int))).toNat + j by omega, q3 j (by omega) hj, h2.2.1.1, e.1]
              have tkA2 := h2.2.2.1
              obtain ⟨p, p0, tt, -⟩ := tkA2
              rw [kd1] at tt
              have := (let_of tt).2.2.1 (a2 82 5 + (j : Int)) (by omega) (by omega)
              unfold tk_let at this
              exact ⟨rfl, by omega, by omega⟩
          · rw [r1, r2]
            unfold zf_m2
            dsimp only
            rw [if_pos rfl]
            unfold zJ_X4_readWord_113
            rw [if_pos rfl]
            refine Or.inr ⟨rfl, r3.1, ?_, ?_⟩
            · rw [up_k (by decide), up_k (by decide)]; exact r3.2.1
            · rw [up_k (by decide), up_k (by decide)]; exact r3.2.2
    · rw [if_neg kd1, if_neg (fun z => kd1 (k1.mpr z))]
      unfold zJ_X12_sayWord_74
      simp only [zf_lq]
      rw [if_neg (by rw [(wrong_at hb2).1]; decide)]
      exact lo_bl h2 (by decide)
  · rw [if_neg c8, o1 (by show gB 140 4 = 8; omega)]
    unfold zf_m2
    dsimp only
    rw [if_pos rfl]
    exact lo_bl h (by decide)
end LO
