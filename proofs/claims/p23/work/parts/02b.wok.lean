/-! words that stay true -/
def mm_wn : Jvm.Cond → Bool
  | .fieldLinkNest .. => true
  | .methodLinkNest .. => true
  | .arrayOver (.object _) => true
  | _ => false
def mm_wok (w : Jvm.Cond) : Bool := goodWord w || ((w.faceAtom && w.onTables) || mm_wn w)
def mm_TW : List Jvm.Cond := lw_tbl.filter mm_wok
theorem mm_wd {w : Jvm.Cond} (i : Nat) (h : tables_1[i]? = some w) (h2 : mm_wok w = true) : w ∈ mm_TW := List.mem_filter.mpr ⟨List.mem_append_right _ (List.mem_of_getElem? h), h2⟩
theorem mm_ws9 {w : Jvm.Cond} (i : Nat) (h : (k2_sels lw_privs)[i]? = some w) (h2 : mm_wok w = true) : w ∈ mm_TW := List.mem_filter.mpr ⟨List.mem_append_left _ (List.mem_of_getElem? h), h2⟩
/-- a word by its place in a piece of 32 -/
theorem mm_wdc {w : Jvm.Cond} {K : Nat} {c : List Jvm.Cond} (h : (tables_1.drop K).take 32 = c) (i : Nat) (h1 : c[i]? = some w) (h2 : mm_wok w = true) : w ∈ mm_TW := List.mem_filter.mpr ⟨List.mem_append_right _ (List.mem_of_mem_drop (List.mem_of_mem_take (h ▸ List.mem_of_getElem? h1))), h2⟩
