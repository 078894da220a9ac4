/-! cells behind a write -/
theorem mm_u2_row {α : Type} {f : Nat → Nat → α} {q k j : Nat} {v : α} (h : j ≠ q) : mm_u2 f q k v j = f j := by
  funext b
  simp [mm_u2, h]
theorem mm_u2_own {α : Type} {f : Nat → Nat → α} {q k : Nat} {v : α} : mm_u2 f q k v q = fun j => if j = k then v else f q j := by
  funext b
  simp [mm_u2]
section CELLS
variable {a : Nat → Nat} {cA : Nat → ClassId} {H : mm_H} {q k : Nat}
theorem mm_fs_get {ci N j : Nat} (h : j < N) : (mm_fs a H q ci N)[j]? = some (mm_fv a H q j (mm_tab mm_ftT ci j)) := by
  unfold mm_fs
  rw [List.getElem?_map, List.getElem?_range h]
  rfl
theorem mm_fs_len {ci N : Nat} : (mm_fs a H q ci N).length = N := by simp [mm_fs]
theorem mm_fs_set {ci N : Nat} {H' : mm_H} {v : Value} (h1 : mm_fv a H' q k (mm_tab mm_ftT ci k) = v) (h2 : ∀ j ty, j ≠ k → mm_fv a H' q j ty = mm_fv a H q j ty) : (mm_fs a H q ci N).set k v = mm_fs a H' q ci N := by
  unfold mm_fs
  rw [← h1]
  exact mm_map_set N k (fun j => mm_fv a H q j (mm_tab mm_ftT ci j)) (fun j => mm_fv a H' q j (mm_tab mm_ftT ci j)) (fun j hj => h2 j _ hj)
theorem mm_cell_obj (h : (mm_sh H q).1 < 13) : mm_cell a cA H q = .inr ((mm_sh H q).1, mm_fs a H q (mm_sh H q).1 (mm_sh H q).2) := by
  unfold mm_cell
  rw [if_pos h]
theorem mm_cell_int (h : (mm_sh H q).1 = 100 ∨ (mm_sh H q).1 = 101) : mm_cell a cA H q = .inl (cA (mm_sh H q).1, (mm_sh H q).2, .inl (mm_I H q)) := by
  unfold mm_cell
  rw [if_neg (by omega), if_neg (by omega), if_pos (by omega)]
theorem mm_cell_lng (h : (mm_sh H q).1 = 102) : mm_cell a cA H q = .inl (cA (mm_sh H q).1, (mm_sh H q).2, .inr (.inl (mm_L H q))) := by
  unfold mm_cell
  rw [if_neg (by omega), if_pos h]
theorem mm_cell_ref (h : (mm_sh H q).1 = 103 ∨ (mm_sh H q).1 = 104 ∨ (mm_sh H q).1 = 105) : mm_cell a cA H q = .inl (cA (mm_sh H q).1, (mm_sh H q).2, .inr (.inr (.inr (.inr (fun j => (mm_R H q j).map a))))) := by
  unfold mm_cell
  rw [if_neg (by omega), if_neg (by omega), if_neg (by omega)]
theorem mm_cell_same {H' : mm_H} {j : Nat} (h1 : mm_I H' j = mm_I H j) (h2 : mm_R H' j = mm_R H j) (h3 : mm_L H' j = mm_L H j) (h4 : mm_sh H' j = mm_sh H j) : mm_cell a cA H' j = mm_cell a cA H j := by
  have h1 : H'.1 j = H.1 j := h1
  have h2 : H'.2.1 j = H.2.1 j := h2
  have h3 : H'.2.2.1 j = H.2.2.1 j := h3
  have h4 : H'.2.2.2.1 j = H.2.2.2.1 j := h4
  unfold mm_cell mm_fs mm_fv
  simp only [mm_I, mm_R, mm_L, mm_sh, h1, h2, h3, h4]
theorem mm_ws_wI {v : Int32} : (mm_ws a cA H).set q (a q, mm_cell a cA (mm_wI H q k v) q) = mm_ws a cA (mm_wI H q k v) :=
  mm_map_set (mm_n H) q (fun k => (a k, mm_cell a cA H k)) (fun j => (a j, mm_cell a cA (mm_wI H q k v) j)) (fun j hj => by rw [mm_cell_same (H' := mm_wI H q k v) (H := H) (mm_u2_row hj) rfl rfl rfl])
theorem mm_ws_wR {v : Option Nat} : (mm_ws a cA H).set q (a q, mm_cell a cA (mm_wR H q k v) q) = mm_ws a cA (mm_wR H q k v) :=
  mm_map_set (mm_n H) q (fun k => (a k, mm_cell a cA H k)) (fun j => (a j, mm_cell a cA (mm_wR H q k v) j)) (fun j hj => by rw [mm_cell_same (H' := mm_wR H q k v) (H := H) rfl (mm_u2_row hj) rfl rfl])
theorem mm_ws_wL {v : Int64} : (mm_ws a cA H).set q (a q, mm_cell a cA (mm_wL H q k v) q) = mm_ws a cA (mm_wL H q k v) :=
  mm_map_set (mm_n H) q (fun k => (a k, mm_cell a cA H k)) (fun j => (a j, mm_cell a cA (mm_wL H q k v) j)) (fun j hj => by rw [mm_cell_same (H' := mm_wL H q k v) (H := H) rfl rfl (mm_u2_row hj) rfl])
/-- a new cell comes behind -/
theorem mm_ws_new {t len : Nat} {b : Nat → Nat} {x : Nat} (hw : ∀ q j k, mm_R H q j = some k → k < mm_n H ∨ 1000 ≤ k) (hn : mm_n H < 1000) (hb : b = fun k => if k = mm_n H then x else a k) {e : va_E} (he : mm_cell b cA (mm_new H t len) (mm_n H) = e) : mm_ws a cA H ++ [(x, e)] = mm_ws b cA (mm_new H t len) := by
  have hc : ∀ j, j < mm_n H → mm_cell b cA (mm_new H t len) j = mm_cell a cA H j := by
    intro j hj
    have hne : j ≠ mm_n H := Nat.ne_of_lt hj
    rw [mm_cell_same (H' := mm_new H t len) (H := H) (by show mm_u1 _ _ _ j = _; simp [mm_u1, hne]) (by show mm_u1 _ _ _ j = _; simp [mm_u1, hne]) (by show mm_u1 _ _ _ j = _; simp [mm_u1, hne]) (by show mm_u1 _ _ _ j = _; simp [mm_u1, hne])]
    have hR : ∀ i, (mm_R H j i).map b = (mm_R H j i).map a := by
      intro i
      cases hr : mm_R H j i with
      | none => rfl
      | some k =>
        have := hw j i k hr
        have hk : k ≠ mm_n H := by omega
        simp [hb, hk]
    have hT : ∀ i ty, mm_fv b H j i ty = mm_fv a H j i ty := by
      intro i ty
      unfold mm_fv
      split
      · rfl
      · rfl
      · have h9 := hR i
        cases hr : mm_R H j i with
        | none => rfl
        | some k =>
          rw [hr] at h9
          have h9 : b k = a k := by simpa using h9
          simp [va_rf, mm_tr, h9]
    unfold mm_cell mm_fs
    simp only [hR, hT]
  have h1 := mm_map_push (mm_n H) (fun k => (a k, mm_cell a cA H k)) (fun k => (b k, mm_cell b cA (mm_new H t len) k)) (fun j hj => by
    have hne : j ≠ mm_n H := Nat.ne_of_lt hj
    rw [hc j hj]
    simp [hb, hne])
  have h2 : b (mm_n H) = x := by rw [hb]; simp
  simp only [h2, he] at h1
  exact h1
end CELLS
