/-! THE FACTS OF THE TABLES, by program (wip/p2/tools/gen17.py) -/
def mm_AllN (P : Nat → Prop) : Nat → Prop
  | 0 => True
  | n + 1 => mm_AllN P n ∧ P n
theorem mm_AllN_of {P : Nat → Prop} : ∀ {n : Nat}, mm_AllN P n → ∀ k, k < n → P k
  | 0, _, k, h => absurd h (Nat.not_lt_zero k)
  | n + 1, ⟨h1, h2⟩, k, h => by
    rcases Nat.lt_or_ge k n with z | z
    · exact mm_AllN_of h1 k z
    · have : k = n := by omega
      rw [this]; exact h2
def mm_AllR {α : Type} (P : Nat → α → Prop) : List (Nat × α) → Prop
  | [] => True
  | x :: r => P x.1 x.2 ∧ mm_AllR P r
def mm_AllT {α : Type} (P : Nat → Nat → α → Prop) : Nat → List (List (Nat × α)) → Prop
  | _, [] => True
  | k, row :: r => mm_AllR (P k) row ∧ mm_AllT P (k + 1) r
theorem mm_AllR_of {α : Type} {P : Nat → α → Prop} : ∀ {l : List (Nat × α)} {i : Nat} {v : α}, mm_AllR P l → mm_look l i = some v → P i v
  | [], i, v, _, h => by simp [mm_look] at h
  | (k, w) :: r, i, v, ⟨h1, h2⟩, h => by
    rw [mm_look] at h
    split at h
    · rename_i hk
      cases h
      rw [← Nat.eq_of_beq_eq_true hk]
      exact h1
    · exact mm_AllR_of h2 h
theorem mm_AllT_of {α : Type} {P : Nat → Nat → α → Prop} : ∀ {T : List (List (Nat × α))} {k : Nat}, mm_AllT P k T → ∀ {own : Nat} {row : List (Nat × α)}, mm_at T own = some row → mm_AllR (P (k + own)) row
  | [], k, _, own, row, h => by simp [mm_at] at h
  | r0 :: r, k, ⟨h1, h2⟩, 0, row, h => by
    cases h
    exact h1
  | r0 :: r, k, ⟨h1, h2⟩, own + 1, row, h => by
    have := mm_AllT_of h2 (own := own) (row := row) h
    rw [show k + (own + 1) = k + 1 + own by omega]
    exact this
theorem mm_tab_of {α : Type} {P : Nat → Nat → α → Prop} {T : List (List (Nat × α))} (hT : mm_AllT P 0 T) {own i : Nat} {v : α} (h : mm_tab T own i = some v) : P own i v := by
  unfold mm_tab at h
  split at h
  · rename_i l hl
    have := mm_AllT_of hT hl
    rw [Nat.zero_add] at this
    exact mm_AllR_of this h
  · cases h
def mm_PF (own i : Nat) (x : Nat × Nat × Nat) : Prop := ∃ r, mm_at mm_cl x.1 = some r ∧ x.2.1 < r.2.2 ∧ x.1 < 13 ∧ (r.2.1 x.2.1).1 = r.1 ∧ r.1 = mm_cn x.1 ∧
  ((x.2.2 = 0 ∧ Jvm.Cond.fieldLink (mm_cn own) i r.1 (r.2.1 x.2.1).2.1 (r.2.1 x.2.1).2.2.1 ∈ mm_TW) ∨ (x.2.2 = 1 ∧ own ≠ x.1 ∧ Jvm.Cond.fieldLinkNest (mm_cn own) i r.1 (r.2.1 x.2.1).2.1 (r.2.1 x.2.1).2.2.1 RX11 ∈ mm_TW)) ∧
  ∃ kd ty, mm_tab mm_ftT x.1 x.2.1 = some kd ∧ parseFieldDescriptor (r.2.1 x.2.1).2.2.1 = some ty ∧ mm_kd kd ty (r.2.1 x.2.1).2.2.2
