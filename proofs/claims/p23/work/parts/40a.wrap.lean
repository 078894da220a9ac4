section LW3
variable {d : Nat} {M : mm_M} {pc : Nat} {lo : List (Option Value)} {st : List Value} {Q : (Option Value ⊕ Nat) → mm_H → Prop} {g : mz_G} {x : mm_X}
theorem mz_lal {v : Int64} (hl : mm_look M.2.2.2.2 pc = some (.laload, 1)) (e : x.2.2.2.2.1 179 0 = v) (kk : mm_W d M (pc + 1) lo (.long v :: st) (mz_mk g x) Q) : mm_W d M pc lo (.int (Int32.ofInt 0) :: .ref 179 :: st) (mz_mk g x) Q := by
  refine mm_s1 (q := (pc + 1, lo, .long v :: st, mz_mk g x)) hl ?_ kk
  have hsh : mm_sh (mz_mk g x) 179 = (102, 1) := rfl
  have hin : ¬ ((Int32.ofInt 0) < 0 ∨ 1 ≤ (Int32.ofInt 0).toNatClampNeg) := by decide
  have e0 : (Int32.ofInt 0).toNatClampNeg = 0 := by decide
  simp only [mm_step, hsh, if_true, if_neg hin, mm_nx, e0]
  rw [← e]
  rfl
end LW3
theorem thr_e {g : mz_G} {r : Int} (e : zF_X12_thrown g = r) : g 137 2 = r := by
  unfold zF_X12_thrown at e
  rw [zf_lq] at e
  exact e
theorem mt_13_7 : mm_tab mm_mthT 13 7 = some (1, 124, 1, 0, 11) := rfl
theorem mt_13_15 : mm_tab mm_mthT 13 15 = some (1, 126, 1, 0, 11) := rfl
theorem mt_13_20 : mm_tab mm_mthT 13 20 = some (1, 129, 2, 0, 11) := rfl
theorem mt_13_24 : mm_tab mm_mthT 13 24 = some (1, 131, 2, 0, 11) := rfl
theorem mt_13_27 : mm_tab mm_mthT 13 27 = some (1, 132, 2, 0, 11) := rfl
theorem mt_13_30 : mm_tab mm_mthT 13 30 = some (1, 134, 2, 0, 11) := rfl
theorem mt_13_33 : mm_tab mm_mthT 13 33 = some (1, 135, 2, 0, 11) := rfl
theorem mt_13_36 : mm_tab mm_mthT 13 36 = some (1, 136, 1, 0, 11) := rfl
theorem mt_13_39 : mm_tab mm_mthT 13 39 = some (1, 137, 3, 0, 11) := rfl
theorem mt_13_43 : mm_tab mm_mthT 13 43 = some (1, 139, 3, 0, 11) := rfl
theorem mt_13_46 : mm_tab mm_mthT 13 46 = some (1, 141, 3, 0, 11) := rfl
theorem mt_13_49 : mm_tab mm_mthT 13 49 = some (1, 142, 2, 0, 11) := rfl
theorem mt_13_52 : mm_tab mm_mthT 13 52 = some (1, 143, 1, 0, 11) := rfl
theorem mt_13_55 : mm_tab mm_mthT 13 55 = some (1, 144, 2, 0, 11) := rfl
theorem mt_13_58 : mm_tab mm_mthT 13 58 = some (1, 145, 2, 0, 11) := rfl
theorem mt_13_61 : mm_tab mm_mthT 13 61 = some (1, 148, 3, 0, 11) := rfl
theorem mt_13_64 : mm_tab mm_mthT 13 64 = some (1, 149, 1, 0, 11) := rfl
theorem mt_13_67 : mm_tab mm_mthT 13 67 = some (1, 150, 1, 0, 11) := rfl
theorem mt_13_70 : mm_tab mm_mthT 13 70 = some (1, 151, 2, 0, 11) := rfl
theorem mt_13_73 : mm_tab mm_mthT 13 73 = some (1, 154, 3, 0, 11) := rfl
theorem mt_13_76 : mm_tab mm_mthT 13 76 = some (1, 155, 1, 0, 11) := rfl
theorem mt_13_79 : mm_tab mm_mthT 13 79 = some (1, 156, 1, 0, 11) := rfl
theorem mt_13_82 : mm_tab mm_mthT 13 82 = some (1, 163, 3, 0, 11) := rfl
theorem mt_13_85 : mm_tab mm_mthT 13 85 = some (1, 164, 3, 0, 11) := rfl
theorem mt_13_88 : mm_tab mm_mthT 13 88 = some (1, 166, 3, 0, 11) := rfl
theorem mt_13_95 : mm_tab mm_mthT 13 95 = some (1, 123, 5, 0, 11) := rfl
theorem mt_13_99 : mm_tab mm_mthT 13 99 = some (1, 188, 5, 0, 12) := rfl
theorem mt_13_100 : mm_tab mm_mthT 13 100 = some (0, 301, 3, 0, 13) := rfl
theorem mt_13_105 : mm_tab mm_mthT 13 105 = some (1, 215, 1, 0, 12) := rfl
theorem mt_13_106 : mm_tab mm_mthT 13 106 = some (1, 125, 0, 0, 11) := rfl
theorem mt_13_110 : mm_tab mm_mthT 13 110 = some (1, 218, 0, 0, 12) := rfl
theorem mt_13_111 : mm_tab mm_mthT 13 111 = some (0, 302, 3, 0, 13) := rfl
theorem mt_13_113 : mm_tab mm_mthT 13 113 = some (1, 243, 1, 0, 12) := rfl
theorem mt_13_114 : mm_tab mm_mthT 13 114 = some (0, 303, 4, 0, 13) := rfl
theorem mt_13_117 : mm_tab mm_mthT 13 117 = some (1, 244, 2, 0, 12) := rfl
theorem mt_13_118 : mm_tab mm_mthT 13 118 = some (0, 304, 4, 0, 13) := rfl
theorem mt_13_120 : mm_tab mm_mthT 13 120 = some (1, 245, 2, 0, 12) := rfl
theorem mt_13_121 : mm_tab mm_mthT 13 121 = some (0, 305, 4, 0, 13) := rfl
theorem mt_13_123 : mm_tab mm_mthT 13 123 = some (1, 246, 2, 0, 12) := rfl
theorem mt_13_124 : mm_tab mm_mthT 13 124 = some (1, 133, 1, 0, 11) := rfl
theorem mt_13_127 : mm_tab mm_mthT 13 127 = some (1, 249, 1, 0, 12) := rfl
theorem mt_13_128 : mm_tab mm_mthT 13 128 = some (0, 306, 4, 0, 13) := rfl
theorem mt_13_130 : mm_tab mm_mthT 13 130 = some (1, 250, 2, 0, 12) := rfl
theorem mt_13_131 : mm_tab mm_mthT 13 131 = some (0, 307, 4, 0, 13) := rfl
theorem mt_13_133 : mm_tab mm_mthT 13 133 = some (1, 251, 2, 0, 12) := rfl
theorem mt_13_134 : mm_tab mm_mthT 13 134 = some (0, 308, 3, 0, 13) := rfl
theorem mt_13_136 : mm_tab mm_mthT 13 136 = some (1, 253, 1, 0, 12) := rfl
theorem mt_13_137 : mm_tab mm_mthT 13 137 = some (0, 309, 5, 0, 13) := rfl
theorem mt_13_140 : mm_tab mm_mthT 13 140 = some (1, 255, 3, 0, 12) := rfl
theorem mt_13_141 : mm_tab mm_mthT 13 141 = some (1, 138, 0, 0, 11) := rfl
theorem mt_13_144 : mm_tab mm_mthT 13 144 = some (1, 256, 0, 0, 12) := rfl
theorem mt_13_145 : mm_tab mm_mthT 13 145 = some (0, 310, 5, 0, 13) := rfl
theorem mt_13_147 : mm_tab mm_mthT 13 147 = some (1, 258, 3, 0, 12) := rfl
theorem mt_13_148 : mm_tab mm_mthT 13 148 = some (0, 311, 5, 0, 13) := rfl
theorem mt_13_150 : mm_tab mm_mthT 13 150 = some (1, 259, 3, 0, 12) := rfl
theorem mt_13_151 : mm_tab mm_mthT 13 151 = some (0, 312, 4, 0, 13) := rfl
theorem mt_13_153 : mm_tab mm_mthT 13 153 = some (1, 262, 2, 0, 12) := rfl
theorem mt_13_154 : mm_tab mm_mthT 13 154 = some (0, 313, 3, 0, 13) := rfl
theorem mt_13_156 : mm_tab mm_mthT 13 156 = some (1, 263, 1, 0, 12) := rfl
theorem mt_13_157 : mm_tab mm_mthT 13 157 = some (0, 314, 4, 0, 13) := rfl
theorem mt_13_159 : mm_tab mm_mthT 13 159 = some (1, 264, 2, 0, 12) := rfl
theorem mt_13_160 : mm_tab mm_mthT 13 160 = some (0, 315, 4, 0, 13) := rfl
theorem mt_13_162 : mm_tab mm_mthT 13 162 = some (1, 265, 2, 0, 12) := rfl
theorem mt_13_163 : mm_tab mm_mthT 13 163 = some (0, 316, 5, 0, 13) := rfl
theorem mt_13_165 : mm_tab mm_mthT 13 165 = some (1, 266, 3, 0, 12) := rfl
theorem mt_13_166 : mm_tab mm_mthT 13 166 = some (0, 317, 3, 0, 13) := rfl
theorem mt_13_168 : mm_tab mm_mthT 13 168 = some (1, 270, 1, 0, 12) := rfl
theorem mt_13_169 : mm_tab mm_mthT 13 169 = some (0, 318, 3, 0, 13) := rfl
theorem mt_13_171 : mm_tab mm_mthT 13 171 = some (1, 273, 1, 0, 12) := rfl
theorem mt_13_172 : mm_tab mm_mthT 13 172 = some (1, 181, 0, 0, 12) := rfl
theorem mt_13_175 : mm_tab mm_mthT 13 175 = some (0, 319, 4, 0, 13) := rfl
theorem mt_13_177 : mm_tab mm_mthT 13 177 = some (1, 274, 2, 0, 12) := rfl
theorem mt_13_178 : mm_tab mm_mthT 13 178 = some (1, 152, 0, 0, 11) := rfl
theorem mt_13_181 : mm_tab mm_mthT 13 181 = some (1, 276, 0, 0, 12) := rfl
theorem mt_13_182 : mm_tab mm_mthT 13 182 = some (0, 320, 5, 0, 13) := rfl
theorem mt_13_184 : mm_tab mm_mthT 13 184 = some (1, 278, 3, 0, 12) := rfl
theorem mt_13_185 : mm_tab mm_mthT 13 185 = some (0, 321, 3, 0, 13) := rfl
theorem mt_13_187 : mm_tab mm_mthT 13 187 = some (1, 281, 1, 0, 12) := rfl
theorem mt_13_188 : mm_tab mm_mthT 13 188 = some (0, 322, 3, 0, 13) := rfl
theorem mt_13_190 : mm_tab mm_mthT 13 190 = some (1, 282, 1, 0, 12) := rfl
theorem mt_13_191 : mm_tab mm_mthT 13 191 = some (1, 157, 0, 0, 11) := rfl
theorem mt_13_194 : mm_tab mm_mthT 13 194 = some (1, 283, 0, 0, 12) := rfl
theorem mt_13_195 : mm_tab mm_mthT 13 195 = some (0, 323, 5, 0, 13) := rfl
theorem mt_13_197 : mm_tab mm_mthT 13 197 = some (1, 284, 3, 0, 12) := rfl
theorem mt_13_198 : mm_tab mm_mthT 13 198 = some (0, 324, 5, 0, 13) := rfl
theorem mt_13_200 : mm_tab mm_mthT 13 200 = some (1, 286, 3, 0, 12) := rfl
theorem mt_13_201 : mm_tab mm_mthT 13 201 = some (0, 325, 5, 0, 13) := rfl
theorem mt_13_203 : mm_tab mm_mthT 13 203 = some (1, 289, 3, 0, 12) := rfl
theorem mt_13_204 : mm_tab mm_mthT 13 204 = some (1, 169, 0, 0, 11) := rfl
theorem mt_13_207 : mm_tab mm_mthT 13 207 = some (1, 291, 0, 0, 12) := rfl
theorem mt_13_208 : mm_tab mm_mthT 13 208 = some (1, 170, 0, 0, 11) := rfl
theorem mt_13_212 : mm_tab mm_mthT 13 212 = some (1, 292, 0, 0, 12) := rfl
theorem nh_X11_alike : ∀ M1, mm_at mm_prog 145 = some M1 → M1.2.2.2.1 = [] := mz_nop (M0 := mmX11_alike) rfl rfl
theorem nh_X11_baggage : ∀ M1, mm_at mm_prog 124 = some M1 → M1.2.2.2.1 = [] := mz_nop (M0 := mmX11_baggage) rfl rfl
theorem nh_X11_blend : ∀ M1, mm_at mm_prog 141 = some M1 → M1.2.2.2.1 = [] := mz_nop (M0 := mmX11_blend) rfl rfl
theorem nh_X11_both : ∀ M1, mm_at mm_prog 148 = some M1 → M1.2.2.2.1 = [] := mz_nop (M0 := mmX11_both) rfl rfl
theorem nh_X11_chain : ∀ M1, mm_at mm_prog 150 = some M1 → M1.2.2.2.1 = [] := mz_nop (M0 := mmX11_chain) rfl rfl
theorem nh_X11_count : ∀ M1, mm_at mm_prog 126 = some M1 → M1.2.2.2.1 = [] := mz_nop (M0 := mmX11_count) rfl rfl
theorem nh_X11_draw : ∀ M1, mm_at mm_prog 134 = some M1 → M1.2.2.2.1 = [] := mz_nop (M0 := mmX11_draw) rfl rfl
theorem nh_X11_full : ∀ M1, mm_at mm_prog 143 = some M1 → M1.2.2.2.1 = [] := mz_nop (M0 := mmX11_full) rfl rfl
theorem nh_X11_game : ∀ M1, mm_at mm_prog 164 = some M1 → M1.2.2.2.1 = [] := mz_nop (M0 := mmX11_game) rfl rfl
theorem nh_X11_later : ∀ M1, mm_at mm_prog 142 = some M1 → M1.2.2.2.1 = [] := mz_nop (M0 := mmX11_later) rfl rfl
theorem nh_X11_letter : ∀ M1, mm_at mm_prog 131 = some M1 → M1.2.2.2.1 = [] := mz_nop (M0 := mmX11_letter) rfl rfl
theorem nh_X11_look : ∀ M1, mm_at mm_prog 156 = some M1 → M1.2.2.2.1 = [] := mz_nop (M0 := mmX11_look) rfl rfl
theorem nh_X11_loose : ∀ M1, mm_at mm_prog 155 = some M1 → M1.2.2.2.1 = [] := mz_nop (M0 := mmX11_loose) rfl rfl
theorem nh_X11_pack : ∀ M1, mm_at mm_prog 137 = some M1 → M1.2.2.2.1 = [] := mz_nop (M0 := mmX11_pack) rfl rfl
theorem nh_X11_pull : ∀ M1, mm_at mm_prog 135 = some M1 → M1.2.2.2.1 = [] := mz_nop (M0 := mmX11_pull) rfl rfl
theorem nh_X11_read : ∀ M1, mm_at mm_prog 144 = some M1 → M1.2.2.2.1 = [] := mz_nop (M0 := mmX11_read) rfl rfl
theorem nh_X11_row : ∀ M1, mm_at mm_prog 149 = some M1 → M1.2.2.2.1 = [] := mz_nop (M0 := mmX11_row) rfl rfl
theorem nh_X11_seasons : ∀ M1, mm_at mm_prog 163 = some M1 → M1.2.2.2.1 = [] := mz_nop (M0 := mmX11_seasons) rfl rfl
theorem nh_X11_see : ∀ M1, mm_at mm_prog 154 = some M1 → M1.2.2.2.1 = [] := mz_nop (M0 := mmX11_see) rfl rfl
theorem nh_X11_then : ∀ M1, mm_at mm_prog 139 = some M1 → M1.2.2.2.1 = [] := mz_nop (M0 := mmX11_then) rfl rfl
theorem nh_X11_toDraw : ∀ M1, mm_at mm_prog 151 = some M1 → M1.2.2.2.1 = [] := mz_nop (M0 := mmX11_toDraw) rfl rfl
theorem nh_X11_trunk : ∀ M1, mm_at mm_prog 132 = some M1 → M1.2.2.2.1 = [] := mz_nop (M0 := mmX11_trunk) rfl rfl
theorem nh_X11_turn : ∀ M1, mm_at mm_prog 136 = some M1 → M1.2.2.2.1 = [] := mz_nop (M0 := mmX11_turn) rfl rfl
theorem nh_X11_word : ∀ M1, mm_at mm_prog 129 = some M1 → M1.2.2.2.1 = [] := mz_nop (M0 := mmX11_word) rfl rfl
theorem nh_X11_years : ∀ M1, mm_at mm_prog 166 = some M1 → M1.2.2.2.1 = [] := mz_nop (M0 := mmX11_years) rfl rfl
theorem nw_X11_baggage_137 {x : mm_X} (hx : mk_x x) {a1 : Int} : ∀ k j : Nat, 137 ≤ k → ¬ (fw_X11_baggage x a1) k j := by
  have kx := kn_x hx
  intro k j hk
  unfold fw_X11_baggage
  omega
theorem nw_X11_trunk_137 {x : mm_X} (hx : mk_x x) {a1 a2 : Int} : ∀ k j : Nat, 137 ≤ k → ¬ (fw_X11_trunk x a1 a2) k j := by
  have kx := kn_x hx
  intro k j hk
  unfold fw_X11_trunk
  omega
theorem nw_X11_draw_137 {x : mm_X} (hx : mk_x x) {a1 a2 : Int} : ∀ k j : Nat, 137 ≤ k → ¬ (fw_X11_draw x a1 a2) k j := by
  have kx := kn_x hx
  intro k j hk
  unfold fw_X11_draw
  omega
theorem nw_X11_pull_137 {x : mm_X} (hx : mk_x x) {a1 a2 : Int} : ∀ k j : Nat, 137 ≤ k → ¬ (fw_X11_pull x a1 a2) k j := by
  have kx := kn_x hx
  intro k j hk
  unfold fw_X11_pull
  omega
theorem nw_X11_turn_137 {x : mm_X} (hx : mk_x x) {a1 : Int} : ∀ k j : Nat, 137 ≤ k → ¬ (fw_X11_turn x a1) k j := by
  have kx := kn_x hx
  intro k j hk
  unfold fw_X11_turn
  omega
theorem nw_X11_pack_137 {x : mm_X} (hx : mk_x x) {a1 a2 a3 : Int} : ∀ k j : Nat, 137 ≤ k → ¬ (fw_X11_pack x a1 a2 a3) k j := by
  have kx := kn_x hx
  intro k j hk
  unfold fw_X11_pack
  omega
theorem nw_X11_then_137 {x : mm_X} (hx : mk_x x) {a1 a2 a3 : Int} : ∀ k j : Nat, 137 ≤ k → ¬ (fw_X11_then x a1 a2 a3) k j := by
  have kx := kn_x hx
  intro k j hk
  unfold fw_X11_then
  omega
theorem nw_X11_blend_137 {x : mm_X} (hx : mk_x x) {a1 a2 a3 : Int} : ∀ k j : Nat, 137 ≤ k → ¬ (fw_X11_blend x a1 a2 a3) k j := by
  have kx := kn_x hx
  intro k j hk
  unfold fw_X11_blend
  omega
theorem nw_X11_later_137 {x : mm_X} (hx : mk_x x) {a1 a2 : Int} : ∀ k j : Nat, 137 ≤ k → ¬ (fw_X11_later x a1 a2) k j := by
  have kx := kn_x hx
  intro k j hk
  unfold fw_X11_later
  omega
theorem nw_X11_full_137 {x : mm_X} (hx : mk_x x) {a1 : Int} : ∀ k j : Nat, 137 ≤ k → ¬ (fw_X11_full x a1) k j := by
  have kx := kn_x hx
  intro k j hk
  unfold fw_X11_full
  omega
theorem nw_X11_read_137 {x : mm_X} (hx : mk_x x) {a1 a2 : Int} : ∀ k j : Nat, 137 ≤ k → ¬ (fw_X11_read x a1 a2) k j := by
  have kx := kn_x hx
  intro k j hk
  unfold fw_X11_read
  omega
theorem nw_X11_alike_137 {x : mm_X} (hx : mk_x x) {a1 a2 : Int} : ∀ k j : Nat, 137 ≤ k → ¬ (fw_X11_alike x a1 a2) k j := by
  have kx := kn_x hx
  intro k j hk
  unfold fw_X11_alike
  omega
theorem nw_X11_both_137 {x : mm_X} (hx : mk_x x) {a1 a2 a3 : Int} : ∀ k j : Nat, 137 ≤ k → ¬ (fw_X11_both x a1 a2 a3) k j := by
  have kx := kn_x hx
  intro k j hk
  unfold fw_X11_both
  omega
theorem nw_X11_toDraw_137 {x : mm_X} (hx : mk_x x) {a1 a2 : Int} : ∀ k j : Nat, 137 ≤ k → ¬ (fw_X11_toDraw x a1 a2) k j := by
  have kx := kn_x hx
  intro k j hk
  unfold fw_X11_toDraw
  omega
theorem nw_X11_see_137 {x : mm_X} (hx : mk_x x) {a1 a2 a3 : Int} : ∀ k j : Nat, 137 ≤ k → ¬ (fw_X11_see x a1 a2 a3) k j := by
  have kx := kn_x hx
  intro k j hk
  unfold fw_X11_see
  omega
theorem nw_X11_loose_137 {x : mm_X} (hx : mk_x x) {a1 : Int} : ∀ k j : Nat, 137 ≤ k → ¬ (fw_X11_loose x a1) k j := by
  have kx := kn_x hx
  intro k j hk
  unfold fw_X11_loose
  omega
theorem nw_X11_look_137 {x : mm_X} (hx : mk_x x) {a1 : Int} : ∀ k j : Nat, 137 ≤ k → ¬ (fw_X11_look x a1) k j := by
  have kx := kn_x hx
  intro k j hk
  unfold fw_X11_look
  omega
theorem nw_X11_seasons_137 {x : mm_X} (hx : mk_x x) {a1 a2 a3 : Int} : ∀ k j : Nat, 137 ≤ k → ¬ (fw_X11_seasons x a1 a2 a3) k j := by
  have kx := kn_x hx
  intro k j hk
  unfold fw_X11_seasons
  omega
theorem nw_X11_game_137 {x : mm_X} (hx : mk_x x) {a1 a2 a3 : Int} : ∀ k j : Nat, 137 ≤ k → ¬ (fw_X11_game x a1 a2 a3) k j := by
  have kx := kn_x hx
  intro k j hk
  unfold fw_X11_game
  omega
theorem nw_X11_years_137 {x : mm_X} (hx : mk_x x) {a1 a2 a3 : Int} : ∀ k j : Nat, 137 ≤ k → ¬ (fw_X11_years x a1 a2 a3) k j := by
  have kx := kn_x hx
  intro k j hk
  unfold fw_X11_years
  omega
theorem nw_X11_feed_137 {x : mm_X} (hx : mk_x x) {a1 a2 a3 a4 a5 : Int} : ∀ k j : Nat, 137 ≤ k → ¬ (fw_X11_feed x a1 a2 a3 a4 a5) k j := by
  have kx := kn_x hx
  intro k j hk
  unfold fw_X11_feed
  omega
theorem nw_X12_feed_149 {x : mm_X} (hx : mk_x x) {a1 a2 a3 a4 a5 : Int} : ∀ j : Nat, ¬ (fw_X12_feed x a1 a2 a3 a4 a5) 149 j := by
  have kx := kn_x hx
  intro j
  unfold fw_X12_feed
  omega
theorem nw_X12_feed_142 {x : mm_X} (hx : mk_x x) {a1 a2 a3 a4 a5 : Int} : ∀ j : Nat, ¬ (fw_X12_feed x a1 a2 a3 a4 a5) 142 j := by
  have kx := kn_x hx
  intro j
  unfold fw_X12_feed
  omega
theorem nw_X12_feed_140 {x : mm_X} (hx : mk_x x) {a1 a2 a3 a4 a5 : Int} : ∀ j : Nat, j < 4 → ¬ (fw_X12_feed x a1 a2 a3 a4 a5) 140 j := by
  have kx := kn_x hx
  intro j hj
  unfold fw_X12_feed
  omega
theorem nw_X12_fault_82 {x : mm_X} (hx : mk_x x) : ¬ (fw_X12_fault x) 82 1 := by
  have kx := kn_x hx
  unfold fw_X12_fault
  omega
theorem nw_X12_fault_15 {x : mm_X} (hx : mk_x x) : ¬ (fw_X12_fault x) 137 15 := by
  have kx := kn_x hx
  unfold fw_X12_fault
  omega
theorem nw_X12_fault_149 {x : mm_X} (hx : mk_x x) : ∀ j : Nat, ¬ (fw_X12_fault x) 149 j := by
  have kx := kn_x hx
  intro j
  unfold fw_X12_fault
  omega
theorem nw_X12_fault_142 {x : mm_X} (hx : mk_x x) : ∀ j : Nat, ¬ (fw_X12_fault x) 142 j := by
  have kx := kn_x hx
  intro j
  unfold fw_X12_fault
  omega
theorem nw_X12_fault_140 {x : mm_X} (hx : mk_x x) : ∀ j : Nat, j < 4 → ¬ (fw_X12_fault x) 140 j := by
  have kx := kn_x hx
  intro j hj
  unfold fw_X12_fault
  omega
theorem nw_X12_count_82 {x : mm_X} (hx : mk_x x) {a1 : Int} : ¬ (fw_X12_count x a1) 82 1 := by
  have kx := kn_x hx
  unfold fw_X12_count
  omega
theorem nw_X12_count_15 {x : mm_X} (hx : mk_x x) {a1 : Int} : ¬ (fw_X12_count x a1) 137 15 := by
  have kx := kn_x hx
  unfold fw_X12_count
  omega
theorem nw_X12_count_149 {x : mm_X} (hx : mk_x x) {a1 : Int} : ∀ j : Nat, ¬ (fw_X12_count x a1) 149 j := by
  have kx := kn_x hx
  intro j
  unfold fw_X12_count
  omega
theorem nw_X12_count_142 {x : mm_X} (hx : mk_x x) {a1 : Int} : ∀ j : Nat, ¬ (fw_X12_count x a1) 142 j := by
  have kx := kn_x hx
  intro j
  unfold fw_X12_count
  omega
theorem nw_X12_count_140 {x : mm_X} (hx : mk_x x) {a1 : Int} : ∀ j : Nat, j < 4 → ¬ (fw_X12_count x a1) 140 j := by
  have kx := kn_x hx
  intro j hj
  unfold fw_X12_count
  omega
theorem nw_X12_word_82 {x : mm_X} (hx : mk_x x) {a1 a2 : Int} : ¬ (fw_X12_word x a1 a2) 82 1 := by
  have kx := kn_x hx
  unfold fw_X12_word
  omega
theorem nw_X12_word_15 {x : mm_X} (hx : mk_x x) {a1 a2 : Int} : ¬ (fw_X12_word x a1 a2) 137 15 := by
  have kx := kn_x hx
  unfold fw_X12_word
  omega
theorem nw_X12_word_149 {x : mm_X} (hx : mk_x x) {a1 a2 : Int} : ∀ j : Nat, ¬ (fw_X12_word x a1 a2) 149 j := by
  have kx := kn_x hx
  intro j
  unfold fw_X12_word
  omega
theorem nw_X12_word_142 {x : mm_X} (hx : mk_x x) {a1 a2 : Int} : ∀ j : Nat, ¬ (fw_X12_word x a1 a2) 142 j := by
  have kx := kn_x hx
  intro j
  unfold fw_X12_word
  omega
theorem nw_X12_word_140 {x : mm_X} (hx : mk_x x) {a1 a2 : Int} : ∀ j : Nat, j < 4 → ¬ (fw_X12_word x a1 a2) 140 j := by
  have kx := kn_x hx
  intro j hj
  unfold fw_X12_word
  omega
theorem nw_X12_letter_82 {x : mm_X} (hx : mk_x x) {a1 a2 : Int} : ¬ (fw_X12_letter x a1 a2) 82 1 := by
  have kx := kn_x hx
  unfold fw_X12_letter
  omega
theorem nw_X12_letter_15 {x : mm_X} (hx : mk_x x) {a1 a2 : Int} : ¬ (fw_X12_letter x a1 a2) 137 15 := by
  have kx := kn_x hx
  unfold fw_X12_letter
  omega
theorem nw_X12_letter_149 {x : mm_X} (hx : mk_x x) {a1 a2 : Int} : ∀ j : Nat, ¬ (fw_X12_letter x a1 a2) 149 j := by
  have kx := kn_x hx
  intro j
  unfold fw_X12_letter
  omega
theorem nw_X12_letter_142 {x : mm_X} (hx : mk_x x) {a1 a2 : Int} : ∀ j : Nat, ¬ (fw_X12_letter x a1 a2) 142 j := by
  have kx := kn_x hx
  intro j
  unfold fw_X12_letter
  omega
theorem nw_X12_letter_140 {x : mm_X} (hx : mk_x x) {a1 a2 : Int} : ∀ j : Nat, j < 4 → ¬ (fw_X12_letter x a1 a2) 140 j := by
  have kx := kn_x hx
  intro j hj
  unfold fw_X12_letter
  omega
theorem nw_X12_trunk_82 {x : mm_X} (hx : mk_x x) {a1 a2 : Int} : ¬ (fw_X12_trunk x a1 a2) 82 1 := by
  have kx := kn_x hx
  unfold fw_X12_trunk
  omega
theorem nw_X12_trunk_15 {x : mm_X} (hx : mk_x x) {a1 a2 : Int} : ¬ (fw_X12_trunk x a1 a2) 137 15 := by
  have kx := kn_x hx
  unfold fw_X12_trunk
  omega
theorem nw_X12_trunk_149 {x : mm_X} (hx : mk_x x) {a1 a2 : Int} : ∀ j : Nat, ¬ (fw_X12_trunk x a1 a2) 149 j := by
  have kx := kn_x hx
  intro j
  unfold fw_X12_trunk
  omega
theorem nw_X12_trunk_142 {x : mm_X} (hx : mk_x x) {a1 a2 : Int} : ∀ j : Nat, ¬ (fw_X12_trunk x a1 a2) 142 j := by
  have kx := kn_x hx
  intro j
  unfold fw_X12_trunk
  omega
theorem nw_X12_trunk_140 {x : mm_X} (hx : mk_x x) {a1 a2 : Int} : ∀ j : Nat, j < 4 → ¬ (fw_X12_trunk x a1 a2) 140 j := by
  have kx := kn_x hx
  intro j hj
  unfold fw_X12_trunk
  omega
theorem nw_X11_days_137 {x : mm_X} (hx : mk_x x) {a1 : Int} : ∀ k j : Nat, 137 ≤ k → ¬ (fw_X11_days x a1) k j := by
  have kx := kn_x hx
  intro k j hk
  unfold fw_X11_days
  omega
theorem nw_X12_days_82 {x : mm_X} (hx : mk_x x) {a1 : Int} : ¬ (fw_X12_days x a1) 82 1 := by
  have kx := kn_x hx
  unfold fw_X12_days
  omega
theorem nw_X12_days_15 {x : mm_X} (hx : mk_x x) {a1 : Int} : ¬ (fw_X12_days x a1) 137 15 := by
  have kx := kn_x hx
  unfold fw_X12_days
  omega
theorem nw_X12_days_149 {x : mm_X} (hx : mk_x x) {a1 : Int} : ∀ j : Nat, ¬ (fw_X12_days x a1) 149 j := by
  have kx := kn_x hx
  intro j
  unfold fw_X12_days
  omega
theorem nw_X12_days_142 {x : mm_X} (hx : mk_x x) {a1 : Int} : ∀ j : Nat, ¬ (fw_X12_days x a1) 142 j := by
  have kx := kn_x hx
  intro j
  unfold fw_X12_days
  omega
theorem nw_X12_days_140 {x : mm_X} (hx : mk_x x) {a1 : Int} : ∀ j : Nat, j < 4 → ¬ (fw_X12_days x a1) 140 j := by
  have kx := kn_x hx
  intro j hj
  unfold fw_X12_days
  omega
theorem nw_X12_draw_82 {x : mm_X} (hx : mk_x x) {a1 a2 : Int} : ¬ (fw_X12_draw x a1 a2) 82 1 := by
  have kx := kn_x hx
  unfold fw_X12_draw
  omega
theorem nw_X12_draw_15 {x : mm_X} (hx : mk_x x) {a1 a2 : Int} : ¬ (fw_X12_draw x a1 a2) 137 15 := by
  have kx := kn_x hx
  unfold fw_X12_draw
  omega
theorem nw_X12_draw_149 {x : mm_X} (hx : mk_x x) {a1 a2 : Int} : ∀ j : Nat, ¬ (fw_X12_draw x a1 a2) 149 j := by
  have kx := kn_x hx
  intro j
  unfold fw_X12_draw
  omega
theorem nw_X12_draw_142 {x : mm_X} (hx : mk_x x) {a1 a2 : Int} : ∀ j : Nat, ¬ (fw_X12_draw x a1 a2) 142 j := by
  have kx := kn_x hx
  intro j
  unfold fw_X12_draw
  omega
theorem nw_X12_draw_140 {x : mm_X} (hx : mk_x x) {a1 a2 : Int} : ∀ j : Nat, j < 4 → ¬ (fw_X12_draw x a1 a2) 140 j := by
  have kx := kn_x hx
  intro j hj
  unfold fw_X12_draw
  omega
theorem nw_X12_pull_82 {x : mm_X} (hx : mk_x x) {a1 a2 : Int} : ¬ (fw_X12_pull x a1 a2) 82 1 := by
  have kx := kn_x hx
  unfold fw_X12_pull
  omega
theorem nw_X12_pull_15 {x : mm_X} (hx : mk_x x) {a1 a2 : Int} : ¬ (fw_X12_pull x a1 a2) 137 15 := by
  have kx := kn_x hx
  unfold fw_X12_pull
  omega
theorem nw_X12_pull_149 {x : mm_X} (hx : mk_x x) {a1 a2 : Int} : ∀ j : Nat, ¬ (fw_X12_pull x a1 a2) 149 j := by
  have kx := kn_x hx
  intro j
  unfold fw_X12_pull
  omega
theorem nw_X12_pull_142 {x : mm_X} (hx : mk_x x) {a1 a2 : Int} : ∀ j : Nat, ¬ (fw_X12_pull x a1 a2) 142 j := by
  have kx := kn_x hx
  intro j
  unfold fw_X12_pull
  omega
theorem nw_X12_pull_140 {x : mm_X} (hx : mk_x x) {a1 a2 : Int} : ∀ j : Nat, j < 4 → ¬ (fw_X12_pull x a1 a2) 140 j := by
  have kx := kn_x hx
  intro j hj
  unfold fw_X12_pull
  omega
theorem nw_X12_turn_82 {x : mm_X} (hx : mk_x x) {a1 : Int} : ¬ (fw_X12_turn x a1) 82 1 := by
  have kx := kn_x hx
  unfold fw_X12_turn
  omega
theorem nw_X12_turn_15 {x : mm_X} (hx : mk_x x) {a1 : Int} : ¬ (fw_X12_turn x a1) 137 15 := by
  have kx := kn_x hx
  unfold fw_X12_turn
  omega
theorem nw_X12_turn_149 {x : mm_X} (hx : mk_x x) {a1 : Int} : ∀ j : Nat, ¬ (fw_X12_turn x a1) 149 j := by
  have kx := kn_x hx
  intro j
  unfold fw_X12_turn
  omega
theorem nw_X12_turn_142 {x : mm_X} (hx : mk_x x) {a1 : Int} : ∀ j : Nat, ¬ (fw_X12_turn x a1) 142 j := by
  have kx := kn_x hx
  intro j
  unfold fw_X12_turn
  omega
theorem nw_X12_turn_140 {x : mm_X} (hx : mk_x x) {a1 : Int} : ∀ j : Nat, j < 4 → ¬ (fw_X12_turn x a1) 140 j := by
  have kx := kn_x hx
  intro j hj
  unfold fw_X12_turn
  omega
theorem nw_X12_pack_82 {x : mm_X} (hx : mk_x x) {a1 a2 a3 : Int} : ¬ (fw_X12_pack x a1 a2 a3) 82 1 := by
  have kx := kn_x hx
  unfold fw_X12_pack
  omega
theorem nw_X12_pack_15 {x : mm_X} (hx : mk_x x) {a1 a2 a3 : Int} : ¬ (fw_X12_pack x a1 a2 a3) 137 15 := by
  have kx := kn_x hx
  unfold fw_X12_pack
  omega
theorem nw_X12_pack_149 {x : mm_X} (hx : mk_x x) {a1 a2 a3 : Int} : ∀ j : Nat, ¬ (fw_X12_pack x a1 a2 a3) 149 j := by
  have kx := kn_x hx
  intro j
  unfold fw_X12_pack
  omega
theorem nw_X12_pack_142 {x : mm_X} (hx : mk_x x) {a1 a2 a3 : Int} : ∀ j : Nat, ¬ (fw_X12_pack x a1 a2 a3) 142 j := by
  have kx := kn_x hx
  intro j
  unfold fw_X12_pack
  omega
theorem nw_X12_pack_140 {x : mm_X} (hx : mk_x x) {a1 a2 a3 : Int} : ∀ j : Nat, j < 4 → ¬ (fw_X12_pack x a1 a2 a3) 140 j := by
  have kx := kn_x hx
  intro j hj
  unfold fw_X12_pack
  omega
theorem nw_X11_undo_137 {x : mm_X} (hx : mk_x x) : ∀ k j : Nat, 137 ≤ k → ¬ (fw_X11_undo x) k j := by
  have kx := kn_x hx
  intro k j hk
  unfold fw_X11_undo
  omega
theorem nw_X12_undo_82 {x : mm_X} (hx : mk_x x) : ¬ (fw_X12_undo x) 82 1 := by
  have kx := kn_x hx
  unfold fw_X12_undo
  omega
theorem nw_X12_undo_15 {x : mm_X} (hx : mk_x x) : ¬ (fw_X12_undo x) 137 15 := by
  have kx := kn_x hx
  unfold fw_X12_undo
  omega
theorem nw_X12_undo_149 {x : mm_X} (hx : mk_x x) : ∀ j : Nat, ¬ (fw_X12_undo x) 149 j := by
  have kx := kn_x hx
  intro j
  unfold fw_X12_undo
  omega
theorem nw_X12_undo_142 {x : mm_X} (hx : mk_x x) : ∀ j : Nat, ¬ (fw_X12_undo x) 142 j := by
  have kx := kn_x hx
  intro j
  unfold fw_X12_undo
  omega
theorem nw_X12_undo_140 {x : mm_X} (hx : mk_x x) : ∀ j : Nat, j < 4 → ¬ (fw_X12_undo x) 140 j := by
  have kx := kn_x hx
  intro j hj
  unfold fw_X12_undo
  omega
theorem nw_X12_then_82 {x : mm_X} (hx : mk_x x) {a1 a2 a3 : Int} : ¬ (fw_X12_then x a1 a2 a3) 82 1 := by
  have kx := kn_x hx
  unfold fw_X12_then
  omega
theorem nw_X12_then_15 {x : mm_X} (hx : mk_x x) {a1 a2 a3 : Int} : ¬ (fw_X12_then x a1 a2 a3) 137 15 := by
  have kx := kn_x hx
  unfold fw_X12_then
  omega
theorem nw_X12_then_149 {x : mm_X} (hx : mk_x x) {a1 a2 a3 : Int} : ∀ j : Nat, ¬ (fw_X12_then x a1 a2 a3) 149 j := by
  have kx := kn_x hx
  intro j
  unfold fw_X12_then
  omega
theorem nw_X12_then_142 {x : mm_X} (hx : mk_x x) {a1 a2 a3 : Int} : ∀ j : Nat, ¬ (fw_X12_then x a1 a2 a3) 142 j := by
  have kx := kn_x hx
  intro j
  unfold fw_X12_then
  omega
theorem nw_X12_then_140 {x : mm_X} (hx : mk_x x) {a1 a2 a3 : Int} : ∀ j : Nat, j < 4 → ¬ (fw_X12_then x a1 a2 a3) 140 j := by
  have kx := kn_x hx
  intro j hj
  unfold fw_X12_then
  omega
theorem nw_X12_blend_82 {x : mm_X} (hx : mk_x x) {a1 a2 a3 : Int} : ¬ (fw_X12_blend x a1 a2 a3) 82 1 := by
  have kx := kn_x hx
  unfold fw_X12_blend
  omega
theorem nw_X12_blend_15 {x : mm_X} (hx : mk_x x) {a1 a2 a3 : Int} : ¬ (fw_X12_blend x a1 a2 a3) 137 15 := by
  have kx := kn_x hx
  unfold fw_X12_blend
  omega
theorem nw_X12_blend_149 {x : mm_X} (hx : mk_x x) {a1 a2 a3 : Int} : ∀ j : Nat, ¬ (fw_X12_blend x a1 a2 a3) 149 j := by
  have kx := kn_x hx
  intro j
  unfold fw_X12_blend
  omega
theorem nw_X12_blend_142 {x : mm_X} (hx : mk_x x) {a1 a2 a3 : Int} : ∀ j : Nat, ¬ (fw_X12_blend x a1 a2 a3) 142 j := by
  have kx := kn_x hx
  intro j
  unfold fw_X12_blend
  omega
theorem nw_X12_blend_140 {x : mm_X} (hx : mk_x x) {a1 a2 a3 : Int} : ∀ j : Nat, j < 4 → ¬ (fw_X12_blend x a1 a2 a3) 140 j := by
  have kx := kn_x hx
  intro j hj
  unfold fw_X12_blend
  omega
theorem nw_X12_later_82 {x : mm_X} (hx : mk_x x) {a1 a2 : Int} : ¬ (fw_X12_later x a1 a2) 82 1 := by
  have kx := kn_x hx
  unfold fw_X12_later
  omega
theorem nw_X12_later_15 {x : mm_X} (hx : mk_x x) {a1 a2 : Int} : ¬ (fw_X12_later x a1 a2) 137 15 := by
  have kx := kn_x hx
  unfold fw_X12_later
  omega
theorem nw_X12_later_149 {x : mm_X} (hx : mk_x x) {a1 a2 : Int} : ∀ j : Nat, ¬ (fw_X12_later x a1 a2) 149 j := by
  have kx := kn_x hx
  intro j
  unfold fw_X12_later
  omega
theorem nw_X12_later_142 {x : mm_X} (hx : mk_x x) {a1 a2 : Int} : ∀ j : Nat, ¬ (fw_X12_later x a1 a2) 142 j := by
  have kx := kn_x hx
  intro j
  unfold fw_X12_later
  omega
theorem nw_X12_later_140 {x : mm_X} (hx : mk_x x) {a1 a2 : Int} : ∀ j : Nat, j < 4 → ¬ (fw_X12_later x a1 a2) 140 j := by
  have kx := kn_x hx
  intro j hj
  unfold fw_X12_later
  omega
theorem nw_X12_full_82 {x : mm_X} (hx : mk_x x) {a1 : Int} : ¬ (fw_X12_full x a1) 82 1 := by
  have kx := kn_x hx
  unfold fw_X12_full
  omega
theorem nw_X12_full_15 {x : mm_X} (hx : mk_x x) {a1 : Int} : ¬ (fw_X12_full x a1) 137 15 := by
  have kx := kn_x hx
  unfold fw_X12_full
  omega
theorem nw_X12_full_149 {x : mm_X} (hx : mk_x x) {a1 : Int} : ∀ j : Nat, ¬ (fw_X12_full x a1) 149 j := by
  have kx := kn_x hx
  intro j
  unfold fw_X12_full
  omega
theorem nw_X12_full_142 {x : mm_X} (hx : mk_x x) {a1 : Int} : ∀ j : Nat, ¬ (fw_X12_full x a1) 142 j := by
  have kx := kn_x hx
  intro j
  unfold fw_X12_full
  omega
theorem nw_X12_full_140 {x : mm_X} (hx : mk_x x) {a1 : Int} : ∀ j : Nat, j < 4 → ¬ (fw_X12_full x a1) 140 j := by
  have kx := kn_x hx
  intro j hj
  unfold fw_X12_full
  omega
theorem nw_X12_read_82 {x : mm_X} (hx : mk_x x) {a1 a2 : Int} : ¬ (fw_X12_read x a1 a2) 82 1 := by
  have kx := kn_x hx
  unfold fw_X12_read
  omega
theorem nw_X12_read_15 {x : mm_X} (hx : mk_x x) {a1 a2 : Int} : ¬ (fw_X12_read x a1 a2) 137 15 := by
  have kx := kn_x hx
  unfold fw_X12_read
  omega
theorem nw_X12_read_149 {x : mm_X} (hx : mk_x x) {a1 a2 : Int} : ∀ j : Nat, ¬ (fw_X12_read x a1 a2) 149 j := by
  have kx := kn_x hx
  intro j
  unfold fw_X12_read
  omega
theorem nw_X12_read_142 {x : mm_X} (hx : mk_x x) {a1 a2 : Int} : ∀ j : Nat, ¬ (fw_X12_read x a1 a2) 142 j := by
  have kx := kn_x hx
  intro j
  unfold fw_X12_read
  omega
theorem nw_X12_read_140 {x : mm_X} (hx : mk_x x) {a1 a2 : Int} : ∀ j : Nat, j < 4 → ¬ (fw_X12_read x a1 a2) 140 j := by
  have kx := kn_x hx
  intro j hj
  unfold fw_X12_read
  omega
theorem nw_X12_alike_82 {x : mm_X} (hx : mk_x x) {a1 a2 : Int} : ¬ (fw_X12_alike x a1 a2) 82 1 := by
  have kx := kn_x hx
  unfold fw_X12_alike
  omega
theorem nw_X12_alike_15 {x : mm_X} (hx : mk_x x) {a1 a2 : Int} : ¬ (fw_X12_alike x a1 a2) 137 15 := by
  have kx := kn_x hx
  unfold fw_X12_alike
  omega
theorem nw_X12_alike_149 {x : mm_X} (hx : mk_x x) {a1 a2 : Int} : ∀ j : Nat, ¬ (fw_X12_alike x a1 a2) 149 j := by
  have kx := kn_x hx
  intro j
  unfold fw_X12_alike
  omega
theorem nw_X12_alike_142 {x : mm_X} (hx : mk_x x) {a1 a2 : Int} : ∀ j : Nat, ¬ (fw_X12_alike x a1 a2) 142 j := by
  have kx := kn_x hx
  intro j
  unfold fw_X12_alike
  omega
theorem nw_X12_alike_140 {x : mm_X} (hx : mk_x x) {a1 a2 : Int} : ∀ j : Nat, j < 4 → ¬ (fw_X12_alike x a1 a2) 140 j := by
  have kx := kn_x hx
  intro j hj
  unfold fw_X12_alike
  omega
theorem nw_X12_both_82 {x : mm_X} (hx : mk_x x) {a1 a2 a3 : Int} : ¬ (fw_X12_both x a1 a2 a3) 82 1 := by
  have kx := kn_x hx
  unfold fw_X12_both
  omega
theorem nw_X12_both_15 {x : mm_X} (hx : mk_x x) {a1 a2 a3 : Int} : ¬ (fw_X12_both x a1 a2 a3) 137 15 := by
  have kx := kn_x hx
  unfold fw_X12_both
  omega
theorem nw_X12_both_149 {x : mm_X} (hx : mk_x x) {a1 a2 a3 : Int} : ∀ j : Nat, ¬ (fw_X12_both x a1 a2 a3) 149 j := by
  have kx := kn_x hx
  intro j
  unfold fw_X12_both
  omega
theorem nw_X12_both_142 {x : mm_X} (hx : mk_x x) {a1 a2 a3 : Int} : ∀ j : Nat, ¬ (fw_X12_both x a1 a2 a3) 142 j := by
  have kx := kn_x hx
  intro j
  unfold fw_X12_both
  omega
theorem nw_X12_both_140 {x : mm_X} (hx : mk_x x) {a1 a2 a3 : Int} : ∀ j : Nat, j < 4 → ¬ (fw_X12_both x a1 a2 a3) 140 j := by
  have kx := kn_x hx
  intro j hj
  unfold fw_X12_both
  omega
theorem nw_X12_row_82 {x : mm_X} (hx : mk_x x) {a1 : Int} : ¬ (fw_X12_row x a1) 82 1 := by
  have kx := kn_x hx
  unfold fw_X12_row
  omega
theorem nw_X12_row_15 {x : mm_X} (hx : mk_x x) {a1 : Int} : ¬ (fw_X12_row x a1) 137 15 := by
  have kx := kn_x hx
  unfold fw_X12_row
  omega
theorem nw_X12_row_149 {x : mm_X} (hx : mk_x x) {a1 : Int} : ∀ j : Nat, ¬ (fw_X12_row x a1) 149 j := by
  have kx := kn_x hx
  intro j
  unfold fw_X12_row
  omega
theorem nw_X12_row_142 {x : mm_X} (hx : mk_x x) {a1 : Int} : ∀ j : Nat, ¬ (fw_X12_row x a1) 142 j := by
  have kx := kn_x hx
  intro j
  unfold fw_X12_row
  omega
theorem nw_X12_row_140 {x : mm_X} (hx : mk_x x) {a1 : Int} : ∀ j : Nat, j < 4 → ¬ (fw_X12_row x a1) 140 j := by
  have kx := kn_x hx
  intro j hj
  unfold fw_X12_row
  omega
theorem nw_X12_chain_82 {x : mm_X} (hx : mk_x x) {a1 : Int} : ¬ (fw_X12_chain x a1) 82 1 := by
  have kx := kn_x hx
  unfold fw_X12_chain
  omega
theorem nw_X12_chain_15 {x : mm_X} (hx : mk_x x) {a1 : Int} : ¬ (fw_X12_chain x a1) 137 15 := by
  have kx := kn_x hx
  unfold fw_X12_chain
  omega
theorem nw_X12_chain_149 {x : mm_X} (hx : mk_x x) {a1 : Int} : ∀ j : Nat, ¬ (fw_X12_chain x a1) 149 j := by
  have kx := kn_x hx
  intro j
  unfold fw_X12_chain
  omega
theorem nw_X12_chain_142 {x : mm_X} (hx : mk_x x) {a1 : Int} : ∀ j : Nat, ¬ (fw_X12_chain x a1) 142 j := by
  have kx := kn_x hx
  intro j
  unfold fw_X12_chain
  omega
theorem nw_X12_chain_140 {x : mm_X} (hx : mk_x x) {a1 : Int} : ∀ j : Nat, j < 4 → ¬ (fw_X12_chain x a1) 140 j := by
  have kx := kn_x hx
  intro j hj
  unfold fw_X12_chain
  omega
theorem nw_X12_toDraw_82 {x : mm_X} (hx : mk_x x) {a1 a2 : Int} : ¬ (fw_X12_toDraw x a1 a2) 82 1 := by
  have kx := kn_x hx
  unfold fw_X12_toDraw
  omega
theorem nw_X12_toDraw_15 {x : mm_X} (hx : mk_x x) {a1 a2 : Int} : ¬ (fw_X12_toDraw x a1 a2) 137 15 := by
  have kx := kn_x hx
  unfold fw_X12_toDraw
  omega
theorem nw_X12_toDraw_149 {x : mm_X} (hx : mk_x x) {a1 a2 : Int} : ∀ j : Nat, ¬ (fw_X12_toDraw x a1 a2) 149 j := by
  have kx := kn_x hx
  intro j
  unfold fw_X12_toDraw
  omega
theorem nw_X12_toDraw_142 {x : mm_X} (hx : mk_x x) {a1 a2 : Int} : ∀ j : Nat, ¬ (fw_X12_toDraw x a1 a2) 142 j := by
  have kx := kn_x hx
  intro j
  unfold fw_X12_toDraw
  omega
theorem nw_X12_toDraw_140 {x : mm_X} (hx : mk_x x) {a1 a2 : Int} : ∀ j : Nat, j < 4 → ¬ (fw_X12_toDraw x a1 a2) 140 j := by
  have kx := kn_x hx
  intro j hj
  unfold fw_X12_toDraw
  omega
theorem nw_X11_couples_137 {x : mm_X} (hx : mk_x x) : ∀ k j : Nat, 137 ≤ k → ¬ (fw_X11_couples x) k j := by
  have kx := kn_x hx
  intro k j hk
  unfold fw_X11_couples
  omega
theorem nw_X12_couples_82 {x : mm_X} (hx : mk_x x) : ¬ (fw_X12_couples x) 82 1 := by
  have kx := kn_x hx
  unfold fw_X12_couples
  omega
theorem nw_X12_couples_15 {x : mm_X} (hx : mk_x x) : ¬ (fw_X12_couples x) 137 15 := by
  have kx := kn_x hx
  unfold fw_X12_couples
  omega
theorem nw_X12_couples_149 {x : mm_X} (hx : mk_x x) : ∀ j : Nat, ¬ (fw_X12_couples x) 149 j := by
  have kx := kn_x hx
  intro j
  unfold fw_X12_couples
  omega
theorem nw_X12_couples_142 {x : mm_X} (hx : mk_x x) : ∀ j : Nat, ¬ (fw_X12_couples x) 142 j := by
  have kx := kn_x hx
  intro j
  unfold fw_X12_couples
  omega
theorem nw_X12_couples_140 {x : mm_X} (hx : mk_x x) : ∀ j : Nat, j < 4 → ¬ (fw_X12_couples x) 140 j := by
  have kx := kn_x hx
  intro j hj
  unfold fw_X12_couples
  omega
theorem nw_X12_see_82 {x : mm_X} (hx : mk_x x) {a1 a2 a3 : Int} : ¬ (fw_X12_see x a1 a2 a3) 82 1 := by
  have kx := kn_x hx
  unfold fw_X12_see
  omega
theorem nw_X12_see_15 {x : mm_X} (hx : mk_x x) {a1 a2 a3 : Int} : ¬ (fw_X12_see x a1 a2 a3) 137 15 := by
  have kx := kn_x hx
  unfold fw_X12_see
  omega
theorem nw_X12_see_149 {x : mm_X} (hx : mk_x x) {a1 a2 a3 : Int} : ∀ j : Nat, ¬ (fw_X12_see x a1 a2 a3) 149 j := by
  have kx := kn_x hx
  intro j
  unfold fw_X12_see
  omega
theorem nw_X12_see_142 {x : mm_X} (hx : mk_x x) {a1 a2 a3 : Int} : ∀ j : Nat, ¬ (fw_X12_see x a1 a2 a3) 142 j := by
  have kx := kn_x hx
  intro j
  unfold fw_X12_see
  omega
theorem nw_X12_see_140 {x : mm_X} (hx : mk_x x) {a1 a2 a3 : Int} : ∀ j : Nat, j < 4 → ¬ (fw_X12_see x a1 a2 a3) 140 j := by
  have kx := kn_x hx
  intro j hj
  unfold fw_X12_see
  omega
theorem nw_X12_loose_82 {x : mm_X} (hx : mk_x x) {a1 : Int} : ¬ (fw_X12_loose x a1) 82 1 := by
  have kx := kn_x hx
  unfold fw_X12_loose
  omega
theorem nw_X12_loose_15 {x : mm_X} (hx : mk_x x) {a1 : Int} : ¬ (fw_X12_loose x a1) 137 15 := by
  have kx := kn_x hx
  unfold fw_X12_loose
  omega
theorem nw_X12_loose_149 {x : mm_X} (hx : mk_x x) {a1 : Int} : ∀ j : Nat, ¬ (fw_X12_loose x a1) 149 j := by
  have kx := kn_x hx
  intro j
  unfold fw_X12_loose
  omega
theorem nw_X12_loose_142 {x : mm_X} (hx : mk_x x) {a1 : Int} : ∀ j : Nat, ¬ (fw_X12_loose x a1) 142 j := by
  have kx := kn_x hx
  intro j
  unfold fw_X12_loose
  omega
theorem nw_X12_loose_140 {x : mm_X} (hx : mk_x x) {a1 : Int} : ∀ j : Nat, j < 4 → ¬ (fw_X12_loose x a1) 140 j := by
  have kx := kn_x hx
  intro j hj
  unfold fw_X12_loose
  omega
theorem nw_X12_look_82 {x : mm_X} (hx : mk_x x) {a1 : Int} : ¬ (fw_X12_look x a1) 82 1 := by
  have kx := kn_x hx
  unfold fw_X12_look
  omega
theorem nw_X12_look_15 {x : mm_X} (hx : mk_x x) {a1 : Int} : ¬ (fw_X12_look x a1) 137 15 := by
  have kx := kn_x hx
  unfold fw_X12_look
  omega
theorem nw_X12_look_149 {x : mm_X} (hx : mk_x x) {a1 : Int} : ∀ j : Nat, ¬ (fw_X12_look x a1) 149 j := by
  have kx := kn_x hx
  intro j
  unfold fw_X12_look
  omega
theorem nw_X12_look_142 {x : mm_X} (hx : mk_x x) {a1 : Int} : ∀ j : Nat, ¬ (fw_X12_look x a1) 142 j := by
  have kx := kn_x hx
  intro j
  unfold fw_X12_look
  omega
theorem nw_X12_look_140 {x : mm_X} (hx : mk_x x) {a1 : Int} : ∀ j : Nat, j < 4 → ¬ (fw_X12_look x a1) 140 j := by
  have kx := kn_x hx
  intro j hj
  unfold fw_X12_look
  omega
theorem nw_X11_forget_137 {x : mm_X} (hx : mk_x x) : ∀ k j : Nat, 137 ≤ k → ¬ (fw_X11_forget x) k j := by
  have kx := kn_x hx
  intro k j hk
  unfold fw_X11_forget
  omega
theorem nw_X12_forget_82 {x : mm_X} (hx : mk_x x) : ¬ (fw_X12_forget x) 82 1 := by
  have kx := kn_x hx
  unfold fw_X12_forget
  omega
theorem nw_X12_forget_15 {x : mm_X} (hx : mk_x x) : ¬ (fw_X12_forget x) 137 15 := by
  have kx := kn_x hx
  unfold fw_X12_forget
  omega
theorem nw_X12_forget_149 {x : mm_X} (hx : mk_x x) : ∀ j : Nat, ¬ (fw_X12_forget x) 149 j := by
  have kx := kn_x hx
  intro j
  unfold fw_X12_forget
  omega
theorem nw_X12_forget_142 {x : mm_X} (hx : mk_x x) : ∀ j : Nat, ¬ (fw_X12_forget x) 142 j := by
  have kx := kn_x hx
  intro j
  unfold fw_X12_forget
  omega
theorem nw_X12_forget_140 {x : mm_X} (hx : mk_x x) : ∀ j : Nat, j < 4 → ¬ (fw_X12_forget x) 140 j := by
  have kx := kn_x hx
  intro j hj
  unfold fw_X12_forget
  omega
theorem nw_X12_seasons_82 {x : mm_X} (hx : mk_x x) {a1 a2 a3 : Int} : ¬ (fw_X12_seasons x a1 a2 a3) 82 1 := by
  have kx := kn_x hx
  unfold fw_X12_seasons
  omega
theorem nw_X12_seasons_15 {x : mm_X} (hx : mk_x x) {a1 a2 a3 : Int} : ¬ (fw_X12_seasons x a1 a2 a3) 137 15 := by
  have kx := kn_x hx
  unfold fw_X12_seasons
  omega
theorem nw_X12_seasons_149 {x : mm_X} (hx : mk_x x) {a1 a2 a3 : Int} : ∀ j : Nat, ¬ (fw_X12_seasons x a1 a2 a3) 149 j := by
  have kx := kn_x hx
  intro j
  unfold fw_X12_seasons
  omega
theorem nw_X12_seasons_142 {x : mm_X} (hx : mk_x x) {a1 a2 a3 : Int} : ∀ j : Nat, ¬ (fw_X12_seasons x a1 a2 a3) 142 j := by
  have kx := kn_x hx
  intro j
  unfold fw_X12_seasons
  omega
theorem nw_X12_seasons_140 {x : mm_X} (hx : mk_x x) {a1 a2 a3 : Int} : ∀ j : Nat, j < 4 → ¬ (fw_X12_seasons x a1 a2 a3) 140 j := by
  have kx := kn_x hx
  intro j hj
  unfold fw_X12_seasons
  omega
theorem nw_X12_game_82 {x : mm_X} (hx : mk_x x) {a1 a2 a3 : Int} : ¬ (fw_X12_game x a1 a2 a3) 82 1 := by
  have kx := kn_x hx
  unfold fw_X12_game
  omega
theorem nw_X12_game_15 {x : mm_X} (hx : mk_x x) {a1 a2 a3 : Int} : ¬ (fw_X12_game x a1 a2 a3) 137 15 := by
  have kx := kn_x hx
  unfold fw_X12_game
  omega
theorem nw_X12_game_149 {x : mm_X} (hx : mk_x x) {a1 a2 a3 : Int} : ∀ j : Nat, ¬ (fw_X12_game x a1 a2 a3) 149 j := by
  have kx := kn_x hx
  intro j
  unfold fw_X12_game
  omega
theorem nw_X12_game_142 {x : mm_X} (hx : mk_x x) {a1 a2 a3 : Int} : ∀ j : Nat, ¬ (fw_X12_game x a1 a2 a3) 142 j := by
  have kx := kn_x hx
  intro j
  unfold fw_X12_game
  omega
theorem nw_X12_game_140 {x : mm_X} (hx : mk_x x) {a1 a2 a3 : Int} : ∀ j : Nat, j < 4 → ¬ (fw_X12_game x a1 a2 a3) 140 j := by
  have kx := kn_x hx
  intro j hj
  unfold fw_X12_game
  omega
theorem nw_X12_years_82 {x : mm_X} (hx : mk_x x) {a1 a2 a3 : Int} : ¬ (fw_X12_years x a1 a2 a3) 82 1 := by
  have kx := kn_x hx
  unfold fw_X12_years
  omega
theorem nw_X12_years_15 {x : mm_X} (hx : mk_x x) {a1 a2 a3 : Int} : ¬ (fw_X12_years x a1 a2 a3) 137 15 := by
  have kx := kn_x hx
  unfold fw_X12_years
  omega
theorem nw_X12_years_149 {x : mm_X} (hx : mk_x x) {a1 a2 a3 : Int} : ∀ j : Nat, ¬ (fw_X12_years x a1 a2 a3) 149 j := by
  have kx := kn_x hx
  intro j
  unfold fw_X12_years
  omega
theorem nw_X12_years_142 {x : mm_X} (hx : mk_x x) {a1 a2 a3 : Int} : ∀ j : Nat, ¬ (fw_X12_years x a1 a2 a3) 142 j := by
  have kx := kn_x hx
  intro j
  unfold fw_X12_years
  omega
theorem nw_X12_years_140 {x : mm_X} (hx : mk_x x) {a1 a2 a3 : Int} : ∀ j : Nat, j < 4 → ¬ (fw_X12_years x a1 a2 a3) 140 j := by
  have kx := kn_x hx
  intro j hj
  unfold fw_X12_years
  omega
theorem nw_X11_image_137 {x : mm_X} (hx : mk_x x) : ∀ k j : Nat, 137 ≤ k → ¬ (fw_X11_image x) k j := by
  have kx := kn_x hx
  intro k j hk
  unfold fw_X11_image
  omega
theorem nw_X12_image_82 {x : mm_X} (hx : mk_x x) : ¬ (fw_X12_image x) 82 1 := by
  have kx := kn_x hx
  unfold fw_X12_image
  omega
theorem nw_X12_image_15 {x : mm_X} (hx : mk_x x) : ¬ (fw_X12_image x) 137 15 := by
  have kx := kn_x hx
  unfold fw_X12_image
  omega
theorem nw_X12_image_149 {x : mm_X} (hx : mk_x x) : ∀ j : Nat, ¬ (fw_X12_image x) 149 j := by
  have kx := kn_x hx
  intro j
  unfold fw_X12_image
  omega
theorem nw_X12_image_142 {x : mm_X} (hx : mk_x x) : ∀ j : Nat, ¬ (fw_X12_image x) 142 j := by
  have kx := kn_x hx
  intro j
  unfold fw_X12_image
  omega
theorem nw_X12_image_140 {x : mm_X} (hx : mk_x x) : ∀ j : Nat, j < 4 → ¬ (fw_X12_image x) 140 j := by
  have kx := kn_x hx
  intro j hj
  unfold fw_X12_image
  omega
theorem nw_X11_restore_137 {x : mm_X} (hx : mk_x x) : ∀ k j : Nat, 137 ≤ k → ¬ (fw_X11_restore x) k j := by
  have kx := kn_x hx
  intro k j hk
  unfold fw_X11_restore
  omega
theorem nw_X12_restore_82 {x : mm_X} (hx : mk_x x) : ¬ (fw_X12_restore x) 82 1 := by
  have kx := kn_x hx
  unfold fw_X12_restore
  omega
theorem nw_X12_restore_15 {x : mm_X} (hx : mk_x x) : ¬ (fw_X12_restore x) 137 15 := by
  have kx := kn_x hx
  unfold fw_X12_restore
  omega
theorem nw_X12_restore_149 {x : mm_X} (hx : mk_x x) : ∀ j : Nat, ¬ (fw_X12_restore x) 149 j := by
  have kx := kn_x hx
  intro j
  unfold fw_X12_restore
  omega
theorem nw_X12_restore_142 {x : mm_X} (hx : mk_x x) : ∀ j : Nat, ¬ (fw_X12_restore x) 142 j := by
  have kx := kn_x hx
  intro j
  unfold fw_X12_restore
  omega
theorem nw_X12_restore_140 {x : mm_X} (hx : mk_x x) : ∀ j : Nat, j < 4 → ¬ (fw_X12_restore x) 140 j := by
  have kx := kn_x hx
  intro j hj
  unfold fw_X12_restore
  omega
theorem nz_X11_trunk_na {x : mm_X} (hx : mk_x x) {a1 a2 : Int} : ∀ k j : Nat, (fw_X11_trunk x a1 a2) k j → na_ x k j := by
  have kx := kn_x hx
  intro k j z
  unfold fw_X11_trunk at z
  rcases z with z | z | z | z | z | z | z | z | z <;> (unfold na_; omega)
theorem nz_X11_draw_ld {x : mm_X} (hx : mk_x x) {a1 a2 : Int} : ∀ k j : Nat, (fw_X11_draw x a1 a2) k j → ¬ (x.1 ≤ k ∧ k ≤ x.1 + 37) := by
  have kx := kn_x hx
  intro k j z
  unfold fw_X11_draw at z
  rcases z with z | z | z | z <;> (omega)
theorem nz_X11_pull_ld {x : mm_X} (hx : mk_x x) {a1 a2 : Int} : ∀ k j : Nat, (fw_X11_pull x a1 a2) k j → ¬ (x.1 ≤ k ∧ k ≤ x.1 + 37) := by
  have kx := kn_x hx
  intro k j z
  unfold fw_X11_pull at z
  rcases z with z | z | z | z <;> (omega)
theorem nz_X11_turn_ld {x : mm_X} (hx : mk_x x) {a1 : Int} : ∀ k j : Nat, (fw_X11_turn x a1) k j → ¬ (x.1 ≤ k ∧ k ≤ x.1 + 37) := by
  have kx := kn_x hx
  intro k j z
  unfold fw_X11_turn at z
  rcases z with z | z | z <;> (omega)
theorem nz_X11_pack_ld {x : mm_X} (hx : mk_x x) {a1 a2 a3 : Int} : ∀ k j : Nat, (fw_X11_pack x a1 a2 a3) k j → ¬ (x.1 ≤ k ∧ k ≤ x.1 + 37) := by
  have kx := kn_x hx
  intro k j z
  unfold fw_X11_pack at z
  rcases z with z | z | z | z <;> (omega)
theorem nz_X11_then_na {x : mm_X} (hx : mk_x x) {a1 a2 a3 : Int} : ∀ k j : Nat, (fw_X11_then x a1 a2 a3) k j → na_ x k j := by
  have kx := kn_x hx
  intro k j z
  unfold fw_X11_then at z
  rcases z with z | z | z | z | z | z <;> (unfold na_; omega)
theorem nz_X11_blend_na {x : mm_X} (hx : mk_x x) {a1 a2 a3 : Int} : ∀ k j : Nat, (fw_X11_blend x a1 a2 a3) k j → na_ x k j := by
  have kx := kn_x hx
  intro k j z
  unfold fw_X11_blend at z
  rcases z with z | z | z | z | z <;> (unfold na_; omega)
theorem nz_X11_later_na {x : mm_X} (hx : mk_x x) {a1 a2 : Int} : ∀ k j : Nat, (fw_X11_later x a1 a2) k j → na_ x k j := by
  have kx := kn_x hx
  intro k j z
  unfold fw_X11_later at z
  rcases z with z | z | z <;> (unfold na_; omega)
theorem nz_X11_full_na {x : mm_X} (hx : mk_x x) {a1 : Int} : ∀ k j : Nat, (fw_X11_full x a1) k j → na_ x k j := by
  have kx := kn_x hx
  intro k j z
  unfold fw_X11_full at z
  rcases z with z | z | z <;> (unfold na_; omega)
theorem nz_X11_read_na {x : mm_X} (hx : mk_x x) {a1 a2 : Int} : ∀ k j : Nat, (fw_X11_read x a1 a2) k j → na_ x k j := by
  have kx := kn_x hx
  intro k j z
  unfold fw_X11_read at z
  rcases z with z | z | z | z | z <;> (unfold na_; omega)
theorem nz_X11_alike_na {x : mm_X} (hx : mk_x x) {a1 a2 : Int} : ∀ k j : Nat, (fw_X11_alike x a1 a2) k j → na_ x k j := by
  have kx := kn_x hx
  intro k j z
  unfold fw_X11_alike at z
  rcases z with z | z | z | z | z | z | z | z <;> (unfold na_; omega)
theorem nz_X11_both_na {x : mm_X} (hx : mk_x x) {a1 a2 a3 : Int} : ∀ k j : Nat, (fw_X11_both x a1 a2 a3) k j → na_ x k j := by
  have kx := kn_x hx
  intro k j z
  unfold fw_X11_both at z
  rcases z with z <;> (unfold na_; omega)
theorem nz_X11_toDraw_na {x : mm_X} (hx : mk_x x) {a1 a2 : Int} : ∀ k j : Nat, (fw_X11_toDraw x a1 a2) k j → na_ x k j := by
  have kx := kn_x hx
  intro k j z
  unfold fw_X11_toDraw at z
  rcases z with z | z | z <;> (unfold na_; omega)
theorem nz_X11_see_ld {x : mm_X} (hx : mk_x x) {a1 a2 a3 : Int} : ∀ k j : Nat, (fw_X11_see x a1 a2 a3) k j → ¬ (x.1 ≤ k ∧ k ≤ x.1 + 37) := by
  have kx := kn_x hx
  intro k j z
  unfold fw_X11_see at z
  rcases z with z | z | z | z | z <;> (omega)
theorem nz_X11_loose_na {x : mm_X} (hx : mk_x x) {a1 : Int} : ∀ k j : Nat, (fw_X11_loose x a1) k j → na_ x k j := by
  have kx := kn_x hx
  intro k j z
  unfold fw_X11_loose at z
  rcases z with z | z | z <;> (unfold na_; omega)
theorem nz_X11_look_na {x : mm_X} (hx : mk_x x) {a1 : Int} : ∀ k j : Nat, (fw_X11_look x a1) k j → na_ x k j := by
  have kx := kn_x hx
  intro k j z
  unfold fw_X11_look at z
  rcases z with z | z | z <;> (unfold na_; omega)
theorem nz_X11_seasons_na {x : mm_X} (hx : mk_x x) {a1 a2 a3 : Int} : ∀ k j : Nat, (fw_X11_seasons x a1 a2 a3) k j → na_ x k j := by
  have kx := kn_x hx
  intro k j z
  unfold fw_X11_seasons at z
  rcases z with z | z | z <;> (unfold na_; omega)
theorem nz_X11_game_na {x : mm_X} (hx : mk_x x) {a1 a2 a3 : Int} : ∀ k j : Nat, (fw_X11_game x a1 a2 a3) k j → na_ x k j := by
  have kx := kn_x hx
  intro k j z
  unfold fw_X11_game at z
  rcases z with z | z | z <;> (unfold na_; omega)
theorem nz_X11_years_na {x : mm_X} (hx : mk_x x) {a1 a2 a3 : Int} : ∀ k j : Nat, (fw_X11_years x a1 a2 a3) k j → na_ x k j := by
  have kx := kn_x hx
  intro k j z
  unfold fw_X11_years at z
  rcases z with z | z | z | z <;> (unfold na_; omega)
theorem nz_X12_feed_lo {x : mm_X} (hx : mk_x x) {a1 a2 a3 a4 a5 : Int} : ∀ k j : Nat, (fw_X12_feed x a1 a2 a3 a4 a5) k j → 137 ≤ k ∧ k < 2000 := by
  have kx := kn_x hx
  intro k j z
  unfold fw_X12_feed at z
  rcases z with z | z | z <;> (omega)
theorem nz_X11_feed_fA {x : mm_X} (hx : mk_x x) {a1 a2 a3 a4 a5 : Int} : ∀ k j : Nat, (fw_X11_feed x a1 a2 a3 a4 a5) k j → k = 83 ∨ (k = 82 ∧ j = 1) := by
  have kx := kn_x hx
  intro k j z
  unfold fw_X11_feed at z
  rcases z with z | z <;> (omega)
theorem nz_X12_feed_fB {x : mm_X} (hx : mk_x x) {a1 a2 a3 a4 a5 : Int} : ∀ k j : Nat, (fw_X12_feed x a1 a2 a3 a4 a5) k j → (k = 137 ∧ j = 2) ∨ k = 151 ∨ (k = 137 ∧ j = 15) := by
  have kx := kn_x hx
  intro k j z
  unfold fw_X12_feed at z
  rcases z with z | z | z <;> (omega)
theorem nz_X12_baggage_lo {x : mm_X} (hx : mk_x x) {a1 : Int} : ∀ k j : Nat, (fw_X12_baggage x a1) k j → 137 ≤ k ∧ k < 2000 := by
  have kx := kn_x hx
  intro k j z
  unfold fw_X12_baggage at z
  rcases z with z | z | z | z | z | z | z | z | z | z | z | z | z | z | z | z | z | z | z | z | z | z | z | z | z | z | z | z | z | z <;> (omega)
theorem nz_X12_fault_lo {x : mm_X} (hx : mk_x x) : ∀ k j : Nat, (fw_X12_fault x) k j → 137 ≤ k ∧ k < 2000 := by
  have kx := kn_x hx
  intro k j z
  unfold fw_X12_fault at z
  rcases z with z <;> (omega)
theorem nz_X12_fault_nb {x : mm_X} (hx : mk_x x) : ∀ k j : Nat, (fw_X12_fault x) k j → nb_ k j := by
  have kx := kn_x hx
  intro k j z
  unfold fw_X12_fault at z
  rcases z with z <;> (unfold nb_; omega)
theorem nz_X12_count_lo {x : mm_X} (hx : mk_x x) {a1 : Int} : ∀ k j : Nat, (fw_X12_count x a1) k j → 137 ≤ k ∧ k < 2000 := by
  have kx := kn_x hx
  intro k j z
  unfold fw_X12_count at z
  rcases z with z <;> (omega)
theorem nz_X12_count_nb {x : mm_X} (hx : mk_x x) {a1 : Int} : ∀ k j : Nat, (fw_X12_count x a1) k j → nb_ k j := by
  have kx := kn_x hx
  intro k j z
  unfold fw_X12_count at z
  rcases z with z <;> (unfold nb_; omega)
theorem nz_X12_word_lo {x : mm_X} (hx : mk_x x) {a1 a2 : Int} : ∀ k j : Nat, (fw_X12_word x a1 a2) k j → 137 ≤ k ∧ k < 2000 := by
  have kx := kn_x hx
  intro k j z
  unfold fw_X12_word at z
  rcases z with z | z | z | z | z <;> (omega)
theorem nz_X12_word_nb {x : mm_X} (hx : mk_x x) {a1 a2 : Int} : ∀ k j : Nat, (fw_X12_word x a1 a2) k j → nb_ k j := by
  have kx := kn_x hx
  intro k j z
  unfold fw_X12_word at z
  rcases z with z | z | z | z | z <;> (unfold nb_; omega)
theorem nz_X12_letter_lo {x : mm_X} (hx : mk_x x) {a1 a2 : Int} : ∀ k j : Nat, (fw_X12_letter x a1 a2) k j → 137 ≤ k ∧ k < 2000 := by
  have kx := kn_x hx
  intro k j z
  unfold fw_X12_letter at z
  rcases z with z <;> (omega)
theorem nz_X12_letter_nb {x : mm_X} (hx : mk_x x) {a1 a2 : Int} : ∀ k j : Nat, (fw_X12_letter x a1 a2) k j → nb_ k j := by
  have kx := kn_x hx
  intro k j z
  unfold fw_X12_letter at z
  rcases z with z <;> (unfold nb_; omega)
theorem nz_X12_trunk_lo {x : mm_X} (hx : mk_x x) {a1 a2 : Int} : ∀ k j : Nat, (fw_X12_trunk x a1 a2) k j → 137 ≤ k ∧ k < 2000 := by
  have kx := kn_x hx
  intro k j z
  unfold fw_X12_trunk at z
  rcases z with z | z | z | z | z | z | z | z <;> (omega)
theorem nz_X12_trunk_nb {x : mm_X} (hx : mk_x x) {a1 a2 : Int} : ∀ k j : Nat, (fw_X12_trunk x a1 a2) k j → nb_ k j := by
  have kx := kn_x hx
  intro k j z
  unfold fw_X12_trunk at z
  rcases z with z | z | z | z | z | z | z | z <;> (unfold nb_; omega)
theorem nz_X12_days_lo {x : mm_X} (hx : mk_x x) {a1 : Int} : ∀ k j : Nat, (fw_X12_days x a1) k j → 137 ≤ k ∧ k < 2000 := by
  have kx := kn_x hx
  intro k j z
  unfold fw_X12_days at z
  rcases z with z | z | z | z | z | z | z | z | z | z | z | z | z | z <;> (omega)
theorem nz_X11_days_ld {x : mm_X} (hx : mk_x x) {a1 : Int} : ∀ k j : Nat, (fw_X11_days x a1) k j → ¬ (x.1 ≤ k ∧ k ≤ x.1 + 37) := by
  have kx := kn_x hx
  intro k j z
  unfold fw_X11_days at z
  rcases z with z | z | z | z | z | z <;> (omega)
theorem nz_X12_draw_lo {x : mm_X} (hx : mk_x x) {a1 a2 : Int} : ∀ k j : Nat, (fw_X12_draw x a1 a2) k j → 137 ≤ k ∧ k < 2000 := by
  have kx := kn_x hx
  intro k j z
  unfold fw_X12_draw at z
  rcases z with z | z | z | z | z <;> (omega)
theorem nz_X12_pull_lo {x : mm_X} (hx : mk_x x) {a1 a2 : Int} : ∀ k j : Nat, (fw_X12_pull x a1 a2) k j → 137 ≤ k ∧ k < 2000 := by
  have kx := kn_x hx
  intro k j z
  unfold fw_X12_pull at z
  rcases z with z | z | z | z | z <;> (omega)
theorem nz_X12_turn_lo {x : mm_X} (hx : mk_x x) {a1 : Int} : ∀ k j : Nat, (fw_X12_turn x a1) k j → 137 ≤ k ∧ k < 2000 := by
  have kx := kn_x hx
  intro k j z
  unfold fw_X12_turn at z
  rcases z with z | z | z | z | z | z <;> (omega)
theorem nz_X12_pack_lo {x : mm_X} (hx : mk_x x) {a1 a2 a3 : Int} : ∀ k j : Nat, (fw_X12_pack x a1 a2 a3) k j → 137 ≤ k ∧ k < 2000 := by
  have kx := kn_x hx
  intro k j z
  unfold fw_X12_pack at z
  rcases z with z | z | z | z | z | z | z <;> (omega)
theorem nz_X12_undo_lo {x : mm_X} (hx : mk_x x) : ∀ k j : Nat, (fw_X12_undo x) k j → 137 ≤ k ∧ k < 2000 := by
  have kx := kn_x hx
  intro k j z
  unfold fw_X12_undo at z
  rcases z with z | z | z | z | z | z | z <;> (omega)
theorem nz_X11_undo_ld {x : mm_X} (hx : mk_x x) : ∀ k j : Nat, (fw_X11_undo x) k j → ¬ (x.1 ≤ k ∧ k ≤ x.1 + 37) := by
  have kx := kn_x hx
  intro k j z
  unfold fw_X11_undo at z
  rcases z with z | z <;> (omega)
theorem nz_X12_then_lo {x : mm_X} (hx : mk_x x) {a1 a2 a3 : Int} : ∀ k j : Nat, (fw_X12_then x a1 a2 a3) k j → 137 ≤ k ∧ k < 2000 := by
  have kx := kn_x hx
  intro k j z
  unfold fw_X12_then at z
  rcases z with z | z | z | z | z | z | z | z | z | z | z | z | z | z | z | z | z | z | z | z <;> (omega)
theorem nz_X12_then_nb5 {x : mm_X} (hx : mk_x x) {a1 a2 a3 : Int} : ∀ k j : Nat, (fw_X12_then x a1 a2 a3) k j → nb_ k j ∨ (k = 137 ∧ j = 30) ∨ (152 ≤ k ∧ k ≤ 155) := by
  have kx := kn_x hx
  intro k j z
  unfold fw_X12_then at z
  rcases z with z | z | z | z | z | z | z | z | z | z | z | z | z | z | z | z | z | z | z | z <;> (unfold nb_; omega)
theorem nz_X12_blend_lo {x : mm_X} (hx : mk_x x) {a1 a2 a3 : Int} : ∀ k j : Nat, (fw_X12_blend x a1 a2 a3) k j → 137 ≤ k ∧ k < 2000 := by
  have kx := kn_x hx
  intro k j z
  unfold fw_X12_blend at z
  rcases z with z | z | z | z | z | z | z | z | z | z | z | z | z | z | z | z | z <;> (omega)
theorem nz_X12_blend_nb5 {x : mm_X} (hx : mk_x x) {a1 a2 a3 : Int} : ∀ k j : Nat, (fw_X12_blend x a1 a2 a3) k j → nb_ k j ∨ (k = 137 ∧ j = 30) ∨ (152 ≤ k ∧ k ≤ 155) := by
  have kx := kn_x hx
  intro k j z
  unfold fw_X12_blend at z
  rcases z with z | z | z | z | z | z | z | z | z | z | z | z | z | z | z | z | z <;> (unfold nb_; omega)
theorem nz_X12_later_lo {x : mm_X} (hx : mk_x x) {a1 a2 : Int} : ∀ k j : Nat, (fw_X12_later x a1 a2) k j → 137 ≤ k ∧ k < 2000 := by
  have kx := kn_x hx
  intro k j z
  unfold fw_X12_later at z
  rcases z with z | z | z | z | z | z | z | z | z | z | z | z | z | z | z <;> (omega)
theorem nz_X12_later_nb5 {x : mm_X} (hx : mk_x x) {a1 a2 : Int} : ∀ k j : Nat, (fw_X12_later x a1 a2) k j → nb_ k j ∨ (k = 137 ∧ j = 30) ∨ (152 ≤ k ∧ k ≤ 155) := by
  have kx := kn_x hx
  intro k j z
  unfold fw_X12_later at z
  rcases z with z | z | z | z | z | z | z | z | z | z | z | z | z | z | z <;> (unfold nb_; omega)
theorem nz_X12_full_lo {x : mm_X} (hx : mk_x x) {a1 : Int} : ∀ k j : Nat, (fw_X12_full x a1) k j → 137 ≤ k ∧ k < 2000 := by
  have kx := kn_x hx
  intro k j z
  unfold fw_X12_full at z
  rcases z with z | z | z | z | z | z | z | z | z | z | z | z | z | z | z <;> (omega)
theorem nz_X12_full_nb5 {x : mm_X} (hx : mk_x x) {a1 : Int} : ∀ k j : Nat, (fw_X12_full x a1) k j → nb_ k j ∨ (k = 137 ∧ j = 30) ∨ (152 ≤ k ∧ k ≤ 155) := by
  have kx := kn_x hx
  intro k j z
  unfold fw_X12_full at z
  rcases z with z | z | z | z | z | z | z | z | z | z | z | z | z | z | z <;> (unfold nb_; omega)
theorem nz_X12_read_lo {x : mm_X} (hx : mk_x x) {a1 a2 : Int} : ∀ k j : Nat, (fw_X12_read x a1 a2) k j → 137 ≤ k ∧ k < 2000 := by
  have kx := kn_x hx
  intro k j z
  unfold fw_X12_read at z
  rcases z with z | z | z | z | z | z | z | z | z | z | z | z | z | z | z | z | z | z | z <;> (omega)
theorem nz_X12_read_nb5 {x : mm_X} (hx : mk_x x) {a1 a2 : Int} : ∀ k j : Nat, (fw_X12_read x a1 a2) k j → nb_ k j ∨ (k = 137 ∧ j = 30) ∨ (152 ≤ k ∧ k ≤ 155) := by
  have kx := kn_x hx
  intro k j z
  unfold fw_X12_read at z
  rcases z with z | z | z | z | z | z | z | z | z | z | z | z | z | z | z | z | z | z | z <;> (unfold nb_; omega)
theorem nz_X12_alike_lo {x : mm_X} (hx : mk_x x) {a1 a2 : Int} : ∀ k j : Nat, (fw_X12_alike x a1 a2) k j → 137 ≤ k ∧ k < 2000 := by
  have kx := kn_x hx
  intro k j z
  unfold fw_X12_alike at z
  rcases z with z | z | z | z | z | z | z | z | z | z | z | z | z | z | z | z | z | z | z <;> (omega)
theorem nz_X12_alike_nb5 {x : mm_X} (hx : mk_x x) {a1 a2 : Int} : ∀ k j : Nat, (fw_X12_alike x a1 a2) k j → nb_ k j ∨ (k = 137 ∧ j = 30) ∨ (152 ≤ k ∧ k ≤ 155) := by
  have kx := kn_x hx
  intro k j z
  unfold fw_X12_alike at z
  rcases z with z | z | z | z | z | z | z | z | z | z | z | z | z | z | z | z | z | z | z <;> (unfold nb_; omega)
theorem nz_X12_both_lo {x : mm_X} (hx : mk_x x) {a1 a2 a3 : Int} : ∀ k j : Nat, (fw_X12_both x a1 a2 a3) k j → 137 ≤ k ∧ k < 2000 := by
  have kx := kn_x hx
  intro k j z
  unfold fw_X12_both at z
  rcases z with z | z | z | z | z | z <;> (omega)
theorem nz_X12_both_nb {x : mm_X} (hx : mk_x x) {a1 a2 a3 : Int} : ∀ k j : Nat, (fw_X12_both x a1 a2 a3) k j → nb_ k j := by
  have kx := kn_x hx
  intro k j z
  unfold fw_X12_both at z
  rcases z with z | z | z | z | z | z <;> (unfold nb_; omega)
theorem nz_X12_row_lo {x : mm_X} (hx : mk_x x) {a1 : Int} : ∀ k j : Nat, (fw_X12_row x a1) k j → 137 ≤ k ∧ k < 2000 := by
  have kx := kn_x hx
  intro k j z
  unfold fw_X12_row at z
  rcases z with z | z <;> (omega)
theorem nz_X12_row_nb {x : mm_X} (hx : mk_x x) {a1 : Int} : ∀ k j : Nat, (fw_X12_row x a1) k j → nb_ k j := by
  have kx := kn_x hx
  intro k j z
  unfold fw_X12_row at z
  rcases z with z | z <;> (unfold nb_; omega)
theorem nz_X12_chain_lo {x : mm_X} (hx : mk_x x) {a1 : Int} : ∀ k j : Nat, (fw_X12_chain x a1) k j → 137 ≤ k ∧ k < 2000 := by
  have kx := kn_x hx
  intro k j z
  unfold fw_X12_chain at z
  rcases z with z | z <;> (omega)
theorem nz_X12_chain_nb {x : mm_X} (hx : mk_x x) {a1 : Int} : ∀ k j : Nat, (fw_X12_chain x a1) k j → nb_ k j := by
  have kx := kn_x hx
  intro k j z
  unfold fw_X12_chain at z
  rcases z with z | z <;> (unfold nb_; omega)
theorem nz_X12_toDraw_lo {x : mm_X} (hx : mk_x x) {a1 a2 : Int} : ∀ k j : Nat, (fw_X12_toDraw x a1 a2) k j → 137 ≤ k ∧ k < 2000 := by
  have kx := kn_x hx
  intro k j z
  unfold fw_X12_toDraw at z
  rcases z with z | z | z | z | z | z | z | z | z | z | z | z | z | z | z <;> (omega)
theorem nz_X12_toDraw_nb5 {x : mm_X} (hx : mk_x x) {a1 a2 : Int} : ∀ k j : Nat, (fw_X12_toDraw x a1 a2) k j → nb_ k j ∨ (k = 137 ∧ j = 30) ∨ (152 ≤ k ∧ k ≤ 155) := by
  have kx := kn_x hx
  intro k j z
  unfold fw_X12_toDraw at z
  rcases z with z | z | z | z | z | z | z | z | z | z | z | z | z | z | z <;> (unfold nb_; omega)
theorem nz_X11_couples_na {x : mm_X} (hx : mk_x x) : ∀ k j : Nat, (fw_X11_couples x) k j → na_ x k j := by
  have kx := kn_x hx
  intro k j z
  unfold fw_X11_couples at z
  rcases z with z | z | z | z | z | z | z | z | z <;> (unfold na_; omega)
theorem nz_X12_couples_lo {x : mm_X} (hx : mk_x x) : ∀ k j : Nat, (fw_X12_couples x) k j → 137 ≤ k ∧ k < 2000 := by
  have kx := kn_x hx
  intro k j z
  unfold fw_X12_couples at z
  rcases z with z | z | z | z | z | z | z | z <;> (omega)
theorem nz_X12_couples_nb {x : mm_X} (hx : mk_x x) : ∀ k j : Nat, (fw_X12_couples x) k j → nb_ k j := by
  have kx := kn_x hx
  intro k j z
  unfold fw_X12_couples at z
  rcases z with z | z | z | z | z | z | z | z <;> (unfold nb_; omega)
theorem nz_X12_see_lo {x : mm_X} (hx : mk_x x) {a1 a2 a3 : Int} : ∀ k j : Nat, (fw_X12_see x a1 a2 a3) k j → 137 ≤ k ∧ k < 2000 := by
  have kx := kn_x hx
  intro k j z
  unfold fw_X12_see at z
  rcases z with z | z | z | z | z | z <;> (omega)
theorem nz_X12_loose_lo {x : mm_X} (hx : mk_x x) {a1 : Int} : ∀ k j : Nat, (fw_X12_loose x a1) k j → 137 ≤ k ∧ k < 2000 := by
  have kx := kn_x hx
  intro k j z
  unfold fw_X12_loose at z
  rcases z with z | z | z | z | z | z | z | z | z | z | z | z | z | z | z | z | z <;> (omega)
theorem nz_X12_loose_nb5 {x : mm_X} (hx : mk_x x) {a1 : Int} : ∀ k j : Nat, (fw_X12_loose x a1) k j → nb_ k j ∨ (k = 137 ∧ j = 30) ∨ (152 ≤ k ∧ k ≤ 155) := by
  have kx := kn_x hx
  intro k j z
  unfold fw_X12_loose at z
  rcases z with z | z | z | z | z | z | z | z | z | z | z | z | z | z | z | z | z <;> (unfold nb_; omega)
theorem nz_X12_look_lo {x : mm_X} (hx : mk_x x) {a1 : Int} : ∀ k j : Nat, (fw_X12_look x a1) k j → 137 ≤ k ∧ k < 2000 := by
  have kx := kn_x hx
  intro k j z
  unfold fw_X12_look at z
  rcases z with z | z | z | z | z | z | z | z | z | z | z | z | z | z | z | z | z | z | z <;> (omega)
theorem nz_X12_look_nb5 {x : mm_X} (hx : mk_x x) {a1 : Int} : ∀ k j : Nat, (fw_X12_look x a1) k j → nb_ k j ∨ (k = 137 ∧ j = 30) ∨ (152 ≤ k ∧ k ≤ 155) := by
  have kx := kn_x hx
  intro k j z
  unfold fw_X12_look at z
  rcases z with z | z | z | z | z | z | z | z | z | z | z | z | z | z | z | z | z | z | z <;> (unfold nb_; omega)
theorem nz_X12_forget_lo {x : mm_X} (hx : mk_x x) : ∀ k j : Nat, (fw_X12_forget x) k j → 137 ≤ k ∧ k < 2000 := by
  have kx := kn_x hx
  intro k j z
  unfold fw_X12_forget at z
  rcases z with z | z <;> (omega)
theorem nz_X11_forget_ld {x : mm_X} (hx : mk_x x) : ∀ k j : Nat, (fw_X11_forget x) k j → ¬ (x.1 ≤ k ∧ k ≤ x.1 + 37) := by
  have kx := kn_x hx
  intro k j z
  unfold fw_X11_forget at z
  rcases z with z <;> (omega)
theorem nz_X12_seasons_lo {x : mm_X} (hx : mk_x x) {a1 a2 a3 : Int} : ∀ k j : Nat, (fw_X12_seasons x a1 a2 a3) k j → 137 ≤ k ∧ k < 2000 := by
  have kx := kn_x hx
  intro k j z
  unfold fw_X12_seasons at z
  rcases z with z | z | z | z | z | z | z | z | z | z | z | z | z | z | z <;> (omega)
theorem nz_X12_seasons_nb5 {x : mm_X} (hx : mk_x x) {a1 a2 a3 : Int} : ∀ k j : Nat, (fw_X12_seasons x a1 a2 a3) k j → nb_ k j ∨ (k = 137 ∧ j = 30) ∨ (152 ≤ k ∧ k ≤ 155) := by
  have kx := kn_x hx
  intro k j z
  unfold fw_X12_seasons at z
  rcases z with z | z | z | z | z | z | z | z | z | z | z | z | z | z | z <;> (unfold nb_; omega)
theorem nz_X12_game_lo {x : mm_X} (hx : mk_x x) {a1 a2 a3 : Int} : ∀ k j : Nat, (fw_X12_game x a1 a2 a3) k j → 137 ≤ k ∧ k < 2000 := by
  have kx := kn_x hx
  intro k j z
  unfold fw_X12_game at z
  rcases z with z | z | z | z | z | z | z | z | z | z | z | z | z | z | z | z <;> (omega)
theorem nz_X12_game_nb5 {x : mm_X} (hx : mk_x x) {a1 a2 a3 : Int} : ∀ k j : Nat, (fw_X12_game x a1 a2 a3) k j → nb_ k j ∨ (k = 137 ∧ j = 30) ∨ (152 ≤ k ∧ k ≤ 155) := by
  have kx := kn_x hx
  intro k j z
  unfold fw_X12_game at z
  rcases z with z | z | z | z | z | z | z | z | z | z | z | z | z | z | z | z <;> (unfold nb_; omega)
theorem nz_X12_years_lo {x : mm_X} (hx : mk_x x) {a1 a2 a3 : Int} : ∀ k j : Nat, (fw_X12_years x a1 a2 a3) k j → 137 ≤ k ∧ k < 2000 := by
  have kx := kn_x hx
  intro k j z
  unfold fw_X12_years at z
  rcases z with z | z | z | z | z | z | z | z | z | z | z | z | z | z | z | z <;> (omega)
theorem nz_X12_years_nb5 {x : mm_X} (hx : mk_x x) {a1 a2 a3 : Int} : ∀ k j : Nat, (fw_X12_years x a1 a2 a3) k j → nb_ k j ∨ (k = 137 ∧ j = 30) ∨ (152 ≤ k ∧ k ≤ 155) := by
  have kx := kn_x hx
  intro k j z
  unfold fw_X12_years at z
  rcases z with z | z | z | z | z | z | z | z | z | z | z | z | z | z | z | z <;> (unfold nb_; omega)
theorem nz_X12_image_lo {x : mm_X} (hx : mk_x x) : ∀ k j : Nat, (fw_X12_image x) k j → 137 ≤ k ∧ k < 2000 := by
  have kx := kn_x hx
  intro k j z
  unfold fw_X12_image at z
  rcases z with z | z | z | z | z | z | z | z | z | z <;> (omega)
theorem nz_X11_image_ld {x : mm_X} (hx : mk_x x) : ∀ k j : Nat, (fw_X11_image x) k j → ¬ (x.1 ≤ k ∧ k ≤ x.1 + 37) := by
  have kx := kn_x hx
  intro k j z
  unfold fw_X11_image at z
  rcases z with z | z | z | z | z | z | z | z <;> (omega)
theorem nz_X12_restore_lo {x : mm_X} (hx : mk_x x) : ∀ k j : Nat, (fw_X12_restore x) k j → 137 ≤ k ∧ k < 2000 := by
  have kx := kn_x hx
  intro k j z
  unfold fw_X12_restore at z
  rcases z with z | z | z | z | z | z | z | z | z | z | z | z | z <;> (omega)
theorem nz_X11_restore_ld {x : mm_X} (hx : mk_x x) : ∀ k j : Nat, (fw_X11_restore x) k j → ¬ (x.1 ≤ k ∧ k ≤ x.1 + 37) := by
  have kx := kn_x hx
  intro k j z
  unfold fw_X11_restore at z
  rcases z with z | z | z | z | z | z | z <;> (omega)
theorem w_L_baggage {d : Nat} (hd : 16 ≤ d) {x : mm_X} (hx : mk_x x) {g : mz_G} (hI : mz_inv g) {a1 : Int} (l_a1 : -2147483648 ≤ a1) (u_a1 : a1 ≤ 2147483647) {Q : (Option Value ⊕ Nat) → mm_H → Prop} (hQ : ∀ (r : Int) (g1 : mz_G) (x1 : mm_X), mz_inv g1 → mz_xx x x1 → (∀ k j : Nat, 137 ≤ k → g1 k j = g k j) → wb (zF_X11_baggage x a1 g) r g1 x1 → Q (.inl (some (.int (Int32.ofInt r)))) (mz_mk g1 x1)) : mm_C d 301 [.ref 0, .int (Int32.ofInt a1), .ref 179] (mz_mk g x) Q := by
  have kx := kn_x hx
  refine ⟨mmL_baggage, [some (.ref 0), some (.int (Int32.ofInt a1)), some (.ref 179), none], rfl, rfl, ?_⟩
  refine mm_g 4 (pc1 := 4) (lo1 := [some (.ref 0), some (.int (Int32.ofInt a1)), some (.ref 179), none]) (st1 := [.int (Int32.ofInt a1), .ref 0, .int (Int32.ofInt 0), .ref 179]) (H1 := mz_mk g x) rfl ?_
  refine mz_cvh rfl mt_13_7 rfl rfl (Nat.le_of_ble_eq_true rfl) (by omega) rfl nh_X11_baggage (f_X11_baggage (by omega) hx hI l_a1 u_a1 (fun r g1 x1 hx1 hq1 hI1 hf1 l_r u_r hp0 hp1 e_ => ?_) (fun e_ => (mm_HQ_n (E := 1) (hp := 12) (k := 3) (lo2 := [some (.ref 0), some (.int (Int32.ofInt a1)), some (.ref 179), none]) rfl rfl rfl (Nat.le_of_ble_eq_true rfl) rfl (mm_g 1 (pc1 := 14) (lo1 := [some (.ref 0), some (.int (Int32.ofInt a1)), some (.ref 179), none]) (st1 := [.int (Int32.ofInt 1)]) (H1 := mz_mk g (mz_tx x)) rfl (mm_rt rfl rfl (hQ 1 g (mz_tx x) hI (mz_xx_tx hx) (fun _ _ _ => rfl) (wb_2 e_)))))))
  show mm_W d mmL_baggage 7 [some (.ref 0), some (.int (Int32.ofInt a1)), some (.ref 179), none] [.int (Int32.ofInt r), .int (Int32.ofInt 0), .ref 179] (mz_mk g1 x1) Q
  refine mz_i2l rfl ⟨by omega, by omega⟩ ?_
  refine mz_las rfl ?_
  refine mz_gt (tgt := 15) rfl rfl ?_
  exact mm_g 1 (pc1 := 16) (lo1 := [some (.ref 0), some (.int (Int32.ofInt a1)), some (.ref 179), none]) (st1 := [.int (Int32.ofInt 0)]) (H1 := mz_mk g1 (mz_lx x1 (Int64.ofInt r))) rfl (mm_rt rfl rfl (hQ 0 g1 (mz_lx x1 (Int64.ofInt r)) hI1 (mz_xx_lx hx1 hq1 _) (fun k j hk => hf1 k j (nw_X11_baggage_137 hx k j hk)) (wb_0 e_)))
theorem w_L_count {d : Nat} (hd : 16 ≤ d) {x : mm_X} (hx : mk_x x) {g : mz_G} (hI : mz_inv g) {a1 : Int} (l_a1 : -2147483648 ≤ a1) (u_a1 : a1 ≤ 2147483647) {Q : (Option Value ⊕ Nat) → mm_H → Prop} (hQ : ∀ (r : Int) (g1 : mz_G) (x1 : mm_X), mz_inv g1 → mz_xx x x1 → (∀ k j : Nat, 137 ≤ k → g1 k j = g k j) → wd x (zF_X11_count x a1 g) r g1 x1 → (∀ a b : Nat, ¬ na_ x a b → g1 a b = g a b) → Q (.inl (some (.int (Int32.ofInt r)))) (mz_mk g1 x1)) : mm_C d 302 [.ref 0, .int (Int32.ofInt a1), .ref 179] (mz_mk g x) Q := by
  have kx := kn_x hx
  refine ⟨mmL_count, [some (.ref 0), some (.int (Int32.ofInt a1)), some (.ref 179), none], rfl, rfl, ?_⟩
  refine mm_g 4 (pc1 := 4) (lo1 := [some (.ref 0), some (.int (Int32.ofInt a1)), some (.ref 179), none]) (st1 := [.int (Int32.ofInt a1), .ref 0, .int (Int32.ofInt 0), .ref 179]) (H1 := mz_mk g x) rfl ?_
  refine mz_cvh rfl mt_13_15 rfl rfl (Nat.le_of_ble_eq_true rfl) (by omega) rfl nh_X11_count (f_X11_count (by omega) hx hI l_a1 u_a1 (fun r l_r u_r e_ => ?_) (fun e_ => (mm_HQ_n (E := 0) (hp := 12) (k := 3) (lo2 := [some (.ref 0), some (.int (Int32.ofInt a1)), some (.ref 179), none]) rfl rfl rfl (Nat.le_of_ble_eq_true rfl) rfl (mm_g 1 (pc1 := 14) (lo1 := [some (.ref 0), some (.int (Int32.ofInt a1)), some (.ref 179), none]) (st1 := [.int (Int32.ofInt 1)]) (H1 := mz_mk g (mz_tx x)) rfl (mm_rt rfl rfl (hQ 1 g (mz_tx x) hI (mz_xx_tx hx) (fun _ _ _ => rfl) (wdx_1 e_) (fun _ _ _ => rfl)))))))
  show mm_W d mmL_count 7 [some (.ref 0), some (.int (Int32.ofInt a1)), some (.ref 179), none] [.int (Int32.ofInt r), .int (Int32.ofInt 0), .ref 179] (mz_mk g x) Q
  refine mz_i2l rfl ⟨by omega, by omega⟩ ?_
  refine mz_las rfl ?_
  refine mz_gt (tgt := 15) rfl rfl ?_
  exact mm_g 1 (pc1 := 16) (lo1 := [some (.ref 0), some (.int (Int32.ofInt a1)), some (.ref 179), none]) (st1 := [.int (Int32.ofInt 0)]) (H1 := mz_mk g (mz_lx x (Int64.ofInt r))) rfl (mm_rt rfl rfl (hQ 0 g (mz_lx x (Int64.ofInt r)) hI (mz_xx_lx hx rfl _) (fun _ _ _ => rfl) (wdx_0 e_) (fun _ _ _ => rfl)))
theorem w_L_word {d : Nat} (hd : 14 ≤ d) {x : mm_X} (hx : mk_x x) {g : mz_G} (hI : mz_inv g) {a1 : Int} (l_a1 : -2147483648 ≤ a1) (u_a1 : a1 ≤ 2147483647) {a2 : Int} (l_a2 : -2147483648 ≤ a2) (u_a2 : a2 ≤ 2147483647) {Q : (Option Value ⊕ Nat) → mm_H → Prop} (hQ : ∀ (r : Int) (g1 : mz_G) (x1 : mm_X), mz_inv g1 → mz_xx x x1 → (∀ k j : Nat, 137 ≤ k → g1 k j = g k j) → wd x (zF_X11_word x a1 a2 g) r g1 x1 → (∀ a b : Nat, ¬ na_ x a b → g1 a b = g a b) → Q (.inl (some (.int (Int32.ofInt r)))) (mz_mk g1 x1)) : mm_C d 303 [.ref 0, .int (Int32.ofInt a1), .int (Int32.ofInt a2), .ref 179] (mz_mk g x) Q := by
  have kx := kn_x hx
  refine ⟨mmL_word, [some (.ref 0), some (.int (Int32.ofInt a1)), some (.int (Int32.ofInt a2)), some (.ref 179), none], rfl, rfl, ?_⟩
  refine mm_g 5 (pc1 := 5) (lo1 := [some (.ref 0), some (.int (Int32.ofInt a1)), some (.int (Int32.ofInt a2)), some (.ref 179), none]) (st1 := [.int (Int32.ofInt a2), .int (Int32.ofInt a1), .ref 0, .int (Int32.ofInt 0), .ref 179]) (H1 := mz_mk g x) rfl ?_
  refine mz_cvh rfl mt_13_20 rfl rfl (Nat.le_of_ble_eq_true rfl) (by omega) rfl nh_X11_word (f_X11_word (by omega) hx hI l_a1 u_a1 l_a2 u_a2 (fun r l_r u_r e_ => ?_) (fun e_ => (mm_HQ_w (E := 0) (hp := 13) (k := 4) (lo2 := [some (.ref 0), some (.int (Int32.ofInt a1)), some (.int (Int32.ofInt a2)), some (.ref 179), none]) rfl rfl rfl (Nat.le_of_ble_eq_true rfl) rfl (mm_g 1 (pc1 := 16) (lo1 := [some (.ref 0), some (.int (Int32.ofInt a1)), some (.int (Int32.ofInt a2)), some (.ref 179), none]) (st1 := [.int (Int32.ofInt 1)]) (H1 := mz_mk g (mz_tx x)) rfl (mm_rt rfl rfl (hQ 1 g (mz_tx x) hI (mz_xx_tx hx) (fun _ _ _ => rfl) (wdx_1 e_) (fun _ _ _ => rfl)))))))
  show mm_W d mmL_word 8 [some (.ref 0), some (.int (Int32.ofInt a1)), some (.int (Int32.ofInt a2)), some (.ref 179), none] [.int (Int32.ofInt r), .int (Int32.ofInt 0), .ref 179] (mz_mk g x) Q
  refine mz_i2l rfl ⟨by omega, by omega⟩ ?_
  refine mz_las rfl ?_
  refine mz_gt (tgt := 17) rfl rfl ?_
  exact mm_g 1 (pc1 := 18) (lo1 := [some (.ref 0), some (.int (Int32.ofInt a1)), some (.int (Int32.ofInt a2)), some (.ref 179), none]) (st1 := [.int (Int32.ofInt 0)]) (H1 := mz_mk g (mz_lx x (Int64.ofInt r))) rfl (mm_rt rfl rfl (hQ 0 g (mz_lx x (Int64.ofInt r)) hI (mz_xx_lx hx rfl _) (fun _ _ _ => rfl) (wdx_0 e_) (fun _ _ _ => rfl)))
theorem w_L_letter {d : Nat} (hd : 14 ≤ d) {x : mm_X} (hx : mk_x x) {g : mz_G} (hI : mz_inv g) {a1 : Int} (l_a1 : -2147483648 ≤ a1) (u_a1 : a1 ≤ 2147483647) {a2 : Int} (l_a2 : -2147483648 ≤ a2) (u_a2 : a2 ≤ 2147483647) {Q : (Option Value ⊕ Nat) → mm_H → Prop} (hQ : ∀ (r : Int) (g1 : mz_G) (x1 : mm_X), mz_inv g1 → mz_xx x x1 → (∀ k j : Nat, 137 ≤ k → g1 k j = g k j) → wd x (zF_X11_letter x a1 a2 g) r g1 x1 → (∀ a b : Nat, ¬ na_ x a b → g1 a b = g a b) → Q (.inl (some (.int (Int32.ofInt r)))) (mz_mk g1 x1)) : mm_C d 304 [.ref 0, .int (Int32.ofInt a1), .int (Int32.ofInt a2), .ref 179] (mz_mk g x) Q := by
  have kx := kn_x hx
  refine ⟨mmL_letter, [some (.ref 0), some (.int (Int32.ofInt a1)), some (.int (Int32.ofInt a2)), some (.ref 179), none], rfl, rfl, ?_⟩
  refine mm_g 5 (pc1 := 5) (lo1 := [some (.ref 0), some (.int (Int32.ofInt a1)), some (.int (Int32.ofInt a2)), some (.ref 179), none]) (st1 := [.int (Int32.ofInt a2), .int (Int32.ofInt a1), .ref 0, .int (Int32.ofInt 0), .ref 179]) (H1 := mz_mk g x) rfl ?_
  refine mz_cvh rfl mt_13_24 rfl rfl (Nat.le_of_ble_eq_true rfl) (by omega) rfl nh_X11_letter (f_X11_letter (by omega) hx hI l_a1 u_a1 l_a2 u_a2 (fun r l_r u_r e_ => ?_) (fun e_ => (mm_HQ_w (E := 0) (hp := 13) (k := 4) (lo2 := [some (.ref 0), some (.int (Int32.ofInt a1)), some (.int (Int32.ofInt a2)), some (.ref 179), none]) rfl rfl rfl (Nat.le_of_ble_eq_true rfl) rfl (mm_g 1 (pc1 := 16) (lo1 := [some (.ref 0), some (.int (Int32.ofInt a1)), some (.int (Int32.ofInt a2)), some (.ref 179), none]) (st1 := [.int (Int32.ofInt 1)]) (H1 := mz_mk g (mz_tx x)) rfl (mm_rt rfl rfl (hQ 1 g (mz_tx x) hI (mz_xx_tx hx) (fun _ _ _ => rfl) (wdx_1 e_) (fun _ _ _ => rfl)))))))
  show mm_W d mmL_letter 8 [some (.ref 0), some (.int (Int32.ofInt a1)), some (.int (Int32.ofInt a2)), some (.ref 179), none] [.int (Int32.ofInt r), .int (Int32.ofInt 0), .ref 179] (mz_mk g x) Q
  refine mz_i2l rfl ⟨by omega, by omega⟩ ?_
  refine mz_las rfl ?_
  refine mz_gt (tgt := 17) rfl rfl ?_
  exact mm_g 1 (pc1 := 18) (lo1 := [some (.ref 0), some (.int (Int32.ofInt a1)), some (.int (Int32.ofInt a2)), some (.ref 179), none]) (st1 := [.int (Int32.ofInt 0)]) (H1 := mz_mk g (mz_lx x (Int64.ofInt r))) rfl (mm_rt rfl rfl (hQ 0 g (mz_lx x (Int64.ofInt r)) hI (mz_xx_lx hx rfl _) (fun _ _ _ => rfl) (wdx_0 e_) (fun _ _ _ => rfl)))
theorem w_L_trunk {d : Nat} (hd : 16 ≤ d) {x : mm_X} (hx : mk_x x) {g : mz_G} (hI : mz_inv g) {a1 : Int} (l_a1 : -2147483648 ≤ a1) (u_a1 : a1 ≤ 2147483647) {a2 : Int} (l_a2 : -2147483648 ≤ a2) (u_a2 : a2 ≤ 2147483647) {Q : (Option Value ⊕ Nat) → mm_H → Prop} (hQ : ∀ (r : Int) (g1 : mz_G) (x1 : mm_X), mz_inv g1 → mz_xx x x1 → (∀ k j : Nat, 137 ≤ k → g1 k j = g k j) → wd x (zF_X11_trunk x a1 a2 g) r g1 x1 → (∀ a b : Nat, ¬ na_ x a b → g1 a b = g a b) → Q (.inl (some (.int (Int32.ofInt r)))) (mz_mk g1 x1)) : mm_C d 305 [.ref 0, .int (Int32.ofInt a1), .int (Int32.ofInt a2), .ref 179] (mz_mk g x) Q := by
  have kx := kn_x hx
  refine ⟨mmL_trunk, [some (.ref 0), some (.int (Int32.ofInt a1)), some (.int (Int32.ofInt a2)), some (.ref 179), none], rfl, rfl, ?_⟩
  refine mm_g 5 (pc1 := 5) (lo1 := [some (.ref 0), some (.int (Int32.ofInt a1)), some (.int (Int32.ofInt a2)), some (.ref 179), none]) (st1 := [.int (Int32.ofInt a2), .int (Int32.ofInt a1), .ref 0, .int (Int32.ofInt 0), .ref 179]) (H1 := mz_mk g x) rfl ?_
  refine mz_cvh rfl mt_13_27 rfl rfl (Nat.le_of_ble_eq_true rfl) (by omega) rfl nh_X11_trunk (f_X11_trunk (by omega) hx hI l_a1 u_a1 l_a2 u_a2 (fun r g1 hI1 hf1 l_r u_r e_ => ?_) (fun e_ => (mm_HQ_w (E := 0) (hp := 13) (k := 4) (lo2 := [some (.ref 0), some (.int (Int32.ofInt a1)), some (.int (Int32.ofInt a2)), some (.ref 179), none]) rfl rfl rfl (Nat.le_of_ble_eq_true rfl) rfl (mm_g 1 (pc1 := 16) (lo1 := [some (.ref 0), some (.int (Int32.ofInt a1)), some (.int (Int32.ofInt a2)), some (.ref 179), none]) (st1 := [.int (Int32.ofInt 1)]) (H1 := mz_mk g (mz_tx x)) rfl (mm_rt rfl rfl (hQ 1 g (mz_tx x) hI (mz_xx_tx hx) (fun _ _ _ => rfl) (wdx_1 e_) (fun _ _ _ => rfl)))))))
  show mm_W d mmL_trunk 8 [some (.ref 0), some (.int (Int32.ofInt a1)), some (.int (Int32.ofInt a2)), some (.ref 179), none] [.int (Int32.ofInt r), .int (Int32.ofInt 0), .ref 179] (mz_mk g1 x) Q
  refine mz_i2l rfl ⟨by omega, by omega⟩ ?_
  refine mz_las rfl ?_
  refine mz_gt (tgt := 17) rfl rfl ?_
  exact mm_g 1 (pc1 := 18) (lo1 := [some (.ref 0), some (.int (Int32.ofInt a1)), some (.int (Int32.ofInt a2)), some (.ref 179), none]) (st1 := [.int (Int32.ofInt 0)]) (H1 := mz_mk g1 (mz_lx x (Int64.ofInt r))) rfl (mm_rt rfl rfl (hQ 0 g1 (mz_lx x (Int64.ofInt r)) hI1 (mz_xx_lx hx rfl _) (fun k j hk => hf1 k j (nw_X11_trunk_137 hx k j hk)) (wdx_0 e_) (fun a b z => hf1 a b (fun y => z (nz_X11_trunk_na hx _ _ y)))))
theorem w_L_draw {d : Nat} (hd : 14 ≤ d) {x : mm_X} (hx : mk_x x) {g : mz_G} (hI : mz_inv g) {a1 : Int} (l_a1 : -2147483648 ≤ a1) (u_a1 : a1 ≤ 2147483647) {a2 : Int} (l_a2 : -2147483648 ≤ a2) (u_a2 : a2 ≤ 2147483647) {Q : (Option Value ⊕ Nat) → mm_H → Prop} (hQ : ∀ (r : Int) (g1 : mz_G) (x1 : mm_X), mz_inv g1 → mz_xx x x1 → (∀ k j : Nat, 137 ≤ k → g1 k j = g k j) → wd x (zF_X11_draw x a1 a2 g) r g1 x1 → (∀ a b : Nat, x.1 ≤ a → a ≤ x.1 + 37 → g1 a b = g a b) → Q (.inl (some (.int (Int32.ofInt r)))) (mz_mk g1 x1)) : mm_C d 306 [.ref 0, .int (Int32.ofInt a1), .int (Int32.ofInt a2), .ref 179] (mz_mk g x) Q := by
  have kx := kn_x hx
  refine ⟨mmL_draw, [some (.ref 0), some (.int (Int32.ofInt a1)), some (.int (Int32.ofInt a2)), some (.ref 179), none], rfl, rfl, ?_⟩
  refine mm_g 5 (pc1 := 5) (lo1 := [some (.ref 0), some (.int (Int32.ofInt a1)), some (.int (Int32.ofInt a2)), some (.ref 179), none]) (st1 := [.int (Int32.ofInt a2), .int (Int32.ofInt a1), .ref 0, .int (Int32.ofInt 0), .ref 179]) (H1 := mz_mk g x) rfl ?_
  refine mz_cvh rfl mt_13_30 rfl rfl (Nat.le_of_ble_eq_true rfl) (by omega) rfl nh_X11_draw (f_X11_draw (by omega) hx hI l_a1 u_a1 l_a2 u_a2 (fun r g1 hI1 hf1 l_r u_r e_ => ?_) (fun e_ => (mm_HQ_w (E := 0) (hp := 13) (k := 4) (lo2 := [some (.ref 0), some (.int (Int32.ofInt a1)), some (.int (Int32.ofInt a2)), some (.ref 179), none]) rfl rfl rfl (Nat.le_of_ble_eq_true rfl) rfl (mm_g 1 (pc1 := 16) (lo1 := [some (.ref 0), some (.int (Int32.ofInt a1)), some (.int (Int32.ofInt a2)), some (.ref 179), none]) (st1 := [.int (Int32.ofInt 1)]) (H1 := mz_mk g (mz_tx x)) rfl (mm_rt rfl rfl (hQ 1 g (mz_tx x) hI (mz_xx_tx hx) (fun _ _ _ => rfl) (wdx_1 e_) (fun _ _ _ _ => rfl)))))))
  show mm_W d mmL_draw 8 [some (.ref 0), some (.int (Int32.ofInt a1)), some (.int (Int32.ofInt a2)), some (.ref 179), none] [.int (Int32.ofInt r), .int (Int32.ofInt 0), .ref 179] (mz_mk g1 x) Q
  refine mz_i2l rfl ⟨by omega, by omega⟩ ?_
  refine mz_las rfl ?_
  refine mz_gt (tgt := 17) rfl rfl ?_
  exact mm_g 1 (pc1 := 18) (lo1 := [some (.ref 0), some (.int (Int32.ofInt a1)), some (.int (Int32.ofInt a2)), some (.ref 179), none]) (st1 := [.int (Int32.ofInt 0)]) (H1 := mz_mk g1 (mz_lx x (Int64.ofInt r))) rfl (mm_rt rfl rfl (hQ 0 g1 (mz_lx x (Int64.ofInt r)) hI1 (mz_xx_lx hx rfl _) (fun k j hk => hf1 k j (nw_X11_draw_137 hx k j hk)) (wdx_0 e_) (fun a b z1 z2 => hf1 a b (fun y => (nz_X11_draw_ld hx _ _ y) ⟨z1, z2⟩))))
theorem w_L_pull {d : Nat} (hd : 15 ≤ d) {x : mm_X} (hx : mk_x x) {g : mz_G} (hI : mz_inv g) {a1 : Int} (l_a1 : -2147483648 ≤ a1) (u_a1 : a1 ≤ 2147483647) {a2 : Int} (l_a2 : -2147483648 ≤ a2) (u_a2 : a2 ≤ 2147483647) {Q : (Option Value ⊕ Nat) → mm_H → Prop} (hQ : ∀ (r : Int) (g1 : mz_G) (x1 : mm_X), mz_inv g1 → mz_xx x x1 → (∀ k j : Nat, 137 ≤ k → g1 k j = g k j) → wd x (zF_X11_pull x a1 a2 g) r g1 x1 → (∀ a b : Nat, x.1 ≤ a → a ≤ x.1 + 37 → g1 a b = g a b) → Q (.inl (some (.int (Int32.ofInt r)))) (mz_mk g1 x1)) : mm_C d 307 [.ref 0, .int (Int32.ofInt a1), .int (Int32.ofInt a2), .ref 179] (mz_mk g x) Q := by
  have kx := kn_x hx
  refine ⟨mmL_pull, [some (.ref 0), some (.int (Int32.ofInt a1)), some (.int (Int32.ofInt a2)), some (.ref 179), none], rfl, rfl, ?_⟩
  refine mm_g 5 (pc1 := 5) (lo1 := [some (.ref 0), some (.int (Int32.ofInt a1)), some (.int (Int32.ofInt a2)), some (.ref 179), none]) (st1 := [.int (Int32.ofInt a2), .int (Int32.ofInt a1), .ref 0, .int (Int32.ofInt 0), .ref 179]) (H1 := mz_mk g x) rfl ?_
  refine mz_cvh rfl mt_13_33 rfl rfl (Nat.le_of_ble_eq_true rfl) (by omega) rfl nh_X11_pull (f_X11_pull (by omega) hx hI l_a1 u_a1 l_a2 u_a2 (fun r g1 hI1 hf1 l_r u_r e_ => ?_) (fun e_ => (mm_HQ_w (E := 0) (hp := 13) (k := 4) (lo2 := [some (.ref 0), some (.int (Int32.ofInt a1)), some (.int (Int32.ofInt a2)), some (.ref 179), none]) rfl rfl rfl (Nat.le_of_ble_eq_true rfl) rfl (mm_g 1 (pc1 := 16) (lo1 := [some (.ref 0), some (.int (Int32.ofInt a1)), some (.int (Int32.ofInt a2)), some (.ref 179), none]) (st1 := [.int (Int32.ofInt 1)]) (H1 := mz_mk g (mz_tx x)) rfl (mm_rt rfl rfl (hQ 1 g (mz_tx x) hI (mz_xx_tx hx) (fun _ _ _ => rfl) (wdx_1 e_) (fun _ _ _ _ => rfl)))))))
  show mm_W d mmL_pull 8 [some (.ref 0), some (.int (Int32.ofInt a1)), some (.int (Int32.ofInt a2)), some (.ref 179), none] [.int (Int32.ofInt r), .int (Int32.ofInt 0), .ref 179] (mz_mk g1 x) Q
  refine mz_i2l rfl ⟨by omega, by omega⟩ ?_
  refine mz_las rfl ?_
  refine mz_gt (tgt := 17) rfl rfl ?_
  exact mm_g 1 (pc1 := 18) (lo1 := [some (.ref 0), some (.int (Int32.ofInt a1)), some (.int (Int32.ofInt a2)), some (.ref 179), none]) (st1 := [.int (Int32.ofInt 0)]) (H1 := mz_mk g1 (mz_lx x (Int64.ofInt r))) rfl (mm_rt rfl rfl (hQ 0 g1 (mz_lx x (Int64.ofInt r)) hI1 (mz_xx_lx hx rfl _) (fun k j hk => hf1 k j (nw_X11_pull_137 hx k j hk)) (wdx_0 e_) (fun a b z1 z2 => hf1 a b (fun y => (nz_X11_pull_ld hx _ _ y) ⟨z1, z2⟩))))
theorem w_L_turn {d : Nat} (hd : 14 ≤ d) {x : mm_X} (hx : mk_x x) {g : mz_G} (hI : mz_inv g) {a1 : Int} (l_a1 : -2147483648 ≤ a1) (u_a1 : a1 ≤ 2147483647) {Q : (Option Value ⊕ Nat) → mm_H → Prop} (hQ : ∀ (r : Int) (g1 : mz_G) (x1 : mm_X), mz_inv g1 → mz_xx x x1 → (∀ k j : Nat, 137 ≤ k → g1 k j = g k j) → wd x (zF_X11_turn x a1 g) r g1 x1 → (∀ a b : Nat, x.1 ≤ a → a ≤ x.1 + 37 → g1 a b = g a b) → Q (.inl (some (.int (Int32.ofInt r)))) (mz_mk g1 x1)) : mm_C d 308 [.ref 0, .int (Int32.ofInt a1), .ref 179] (mz_mk g x) Q := by
  have kx := kn_x hx
  refine ⟨mmL_turn, [some (.ref 0), some (.int (Int32.ofInt a1)), some (.ref 179), none], rfl, rfl, ?_⟩
  refine mm_g 4 (pc1 := 4) (lo1 := [some (.ref 0), some (.int (Int32.ofInt a1)), some (.ref 179), none]) (st1 := [.int (Int32.ofInt a1), .ref 0, .int (Int32.ofInt 0), .ref 179]) (H1 := mz_mk g x) rfl ?_
  refine mz_cvh rfl mt_13_36 rfl rfl (Nat.le_of_ble_eq_true rfl) (by omega) rfl nh_X11_turn (f_X11_turn (by omega) hx hI l_a1 u_a1 (fun r g1 hI1 hf1 l_r u_r e_ => ?_) (fun e_ => (mm_HQ_n (E := 0) (hp := 12) (k := 3) (lo2 := [some (.ref 0), some (.int (Int32.ofInt a1)), some (.ref 179), none]) rfl rfl rfl (Nat.le_of_ble_eq_true rfl) rfl (mm_g 1 (pc1 := 14) (lo1 := [some (.ref 0), some (.int (Int32.ofInt a1)), some (.ref 179), none]) (st1 := [.int (Int32.ofInt 1)]) (H1 := mz_mk g (mz_tx x)) rfl (mm_rt rfl rfl (hQ 1 g (mz_tx x) hI (mz_xx_tx hx) (fun _ _ _ => rfl) (wdx_1 e_) (fun _ _ _ _ => rfl)))))))
  show mm_W d mmL_turn 7 [some (.ref 0), some (.int (Int32.ofInt a1)), some (.ref 179), none] [.int (Int32.ofInt r), .int (Int32.ofInt 0), .ref 179] (mz_mk g1 x) Q
  refine mz_i2l rfl ⟨by omega, by omega⟩ ?_
  refine mz_las rfl ?_
  refine mz_gt (tgt := 15) rfl rfl ?_
  exact mm_g 1 (pc1 := 16) (lo1 := [some (.ref 0), some (.int (Int32.ofInt a1)), some (.ref 179), none]) (st1 := [.int (Int32.ofInt 0)]) (H1 := mz_mk g1 (mz_lx x (Int64.ofInt r))) rfl (mm_rt rfl rfl (hQ 0 g1 (mz_lx x (Int64.ofInt r)) hI1 (mz_xx_lx hx rfl _) (fun k j hk => hf1 k j (nw_X11_turn_137 hx k j hk)) (wdx_0 e_) (fun a b z1 z2 => hf1 a b (fun y => (nz_X11_turn_ld hx _ _ y) ⟨z1, z2⟩))))
theorem w_L_pack {d : Nat} (hd : 14 ≤ d) {x : mm_X} (hx : mk_x x) {g : mz_G} (hI : mz_inv g) {a1 : Int} (l_a1 : -2147483648 ≤ a1) (u_a1 : a1 ≤ 2147483647) {a2 : Int} (l_a2 : -2147483648 ≤ a2) (u_a2 : a2 ≤ 2147483647) {a3 : Int} (l_a3 : -2147483648 ≤ a3) (u_a3 : a3 ≤ 2147483647) {Q : (Option Value ⊕ Nat) → mm_H → Prop} (hQ : ∀ (r : Int) (g1 : mz_G) (x1 : mm_X), mz_inv g1 → mz_xx x x1 → (∀ k j : Nat, 137 ≤ k → g1 k j = g k j) → wd x (zF_X11_pack x a1 a2 a3 g) r g1 x1 → (∀ a b : Nat, x.1 ≤ a → a ≤ x.1 + 37 → g1 a b = g a b) → Q (.inl (some (.int (Int32.ofInt r)))) (mz_mk g1 x1)) : mm_C d 309 [.ref 0, .int (Int32.ofInt a1), .int (Int32.ofInt a2), .int (Int32.ofInt a3), .ref 179] (mz_mk g x) Q := by
  have kx := kn_x hx
  refine ⟨mmL_pack, [some (.ref 0), some (.int (Int32.ofInt a1)), some (.int (Int32.ofInt a2)), some (.int (Int32.ofInt a3)), some (.ref 179), none], rfl, rfl, ?_⟩
  refine mm_g 6 (pc1 := 7) (lo1 := [some (.ref 0), some (.int (Int32.ofInt a1)), some (.int (Int32.ofInt a2)), some (.int (Int32.ofInt a3)), some (.ref 179), none]) (st1 := [.int (Int32.ofInt a3), .int (Int32.ofInt a2), .int (Int32.ofInt a1), .ref 0, .int (Int32.ofInt 0), .ref 179]) (H1 := mz_mk g x) rfl ?_
  refine mz_cvh rfl mt_13_39 rfl rfl (Nat.le_of_ble_eq_true rfl) (by omega) rfl nh_X11_pack (f_X11_pack (by omega) hx hI l_a1 u_a1 l_a2 u_a2 l_a3 u_a3 (fun r g1 hI1 hf1 l_r u_r e_ => ?_) (fun e_ => (mm_HQ_w (E := 0) (hp := 15) (k := 5) (lo2 := [some (.ref 0), some (.int (Int32.ofInt a1)), some (.int (Int32.ofInt a2)), some (.int (Int32.ofInt a3)), some (.ref 179), none]) rfl rfl rfl (Nat.le_of_ble_eq_true rfl) rfl (mm_g 1 (pc1 := 18) (lo1 := [some (.ref 0), some (.int (Int32.ofInt a1)), some (.int (Int32.ofInt a2)), some (.int (Int32.ofInt a3)), some (.ref 179), none]) (st1 := [.int (Int32.ofInt 1)]) (H1 := mz_mk g (mz_tx x)) rfl (mm_rt rfl rfl (hQ 1 g (mz_tx x) hI (mz_xx_tx hx) (fun _ _ _ => rfl) (wdx_1 e_) (fun _ _ _ _ => rfl)))))))
  show mm_W d mmL_pack 10 [some (.ref 0), some (.int (Int32.ofInt a1)), some (.int (Int32.ofInt a2)), some (.int (Int32.ofInt a3)), some (.ref 179), none] [.int (Int32.ofInt r), .int (Int32.ofInt 0), .ref 179] (mz_mk g1 x) Q
  refine mz_i2l rfl ⟨by omega, by omega⟩ ?_
  refine mz_las rfl ?_
  refine mz_gt (tgt := 19) rfl rfl ?_
  exact mm_g 1 (pc1 := 20) (lo1 := [some (.ref 0), some (.int (Int32.ofInt a1)), some (.int (Int32.ofInt a2)), some (.int (Int32.ofInt a3)), some (.ref 179), none]) (st1 := [.int (Int32.ofInt 0)]) (H1 := mz_mk g1 (mz_lx x (Int64.ofInt r))) rfl (mm_rt rfl rfl (hQ 0 g1 (mz_lx x (Int64.ofInt r)) hI1 (mz_xx_lx hx rfl _) (fun k j hk => hf1 k j (nw_X11_pack_137 hx k j hk)) (wdx_0 e_) (fun a b z1 z2 => hf1 a b (fun y => (nz_X11_pack_ld hx _ _ y) ⟨z1, z2⟩))))
theorem w_L_then {d : Nat} (hd : 17 ≤ d) {x : mm_X} (hx : mk_x x) {g : mz_G} (hI : mz_inv g) {a1 : Int} (l_a1 : -2147483648 ≤ a1) (u_a1 : a1 ≤ 2147483647) {a2 : Int} (l_a2 : -2147483648 ≤ a2) (u_a2 : a2 ≤ 2147483647) {a3 : Int} (l_a3 : -2147483648 ≤ a3) (u_a3 : a3 ≤ 2147483647) {Q : (Option Value ⊕ Nat) → mm_H → Prop} (hQ : ∀ (r : Int) (g1 : mz_G) (x1 : mm_X), mz_inv g1 → mz_xx x x1 → (∀ k j : Nat, 137 ≤ k → g1 k j = g k j) → wd x (zF_X11_then x a1 a2 a3 g) r g1 x1 → (∀ a b : Nat, ¬ na_ x a b → g1 a b = g a b) → Q (.inl (some (.int (Int32.ofInt r)))) (mz_mk g1 x1)) : mm_C d 310 [.ref 0, .int (Int32.ofInt a1), .int (Int32.ofInt a2), .int (Int32.ofInt a3), .ref 179] (mz_mk g x) Q := by
  have kx := kn_x hx
  refine ⟨mmL_then, [some (.ref 0), some (.int (Int32.ofInt a1)), some (.int (Int32.ofInt a2)), some (.int (Int32.ofInt a3)), some (.ref 179), none], rfl, rfl, ?_⟩
  refine mm_g 6 (pc1 := 7) (lo1 := [some (.ref 0), some (.int (Int32.ofInt a1)), some (.int (Int32.ofInt a2)), some (.int (Int32.ofInt a3)), some (.ref 179), none]) (st1 := [.int (Int32.ofInt a3), .int (Int32.ofInt a2), .int (Int32.ofInt a1), .ref 0, .int (Int32.ofInt 0), .ref 179]) (H1 := mz_mk g x) rfl ?_
  refine mz_cvh rfl mt_13_43 rfl rfl (Nat.le_of_ble_eq_true rfl) (by omega) rfl nh_X11_then (f_X11_then (by omega) hx hI l_a1 u_a1 l_a2 u_a2 l_a3 u_a3 (fun r g1 hI1 hf1 l_r u_r e_ => ?_) (fun e_ => (mm_HQ_w (E := 0) (hp := 15) (k := 5) (lo2 := [some (.ref 0), some (.int (Int32.ofInt a1)), some (.int (Int32.ofInt a2)), some (.int (Int32.ofInt a3)), some (.ref 179), none]) rfl rfl rfl (Nat.le_of_ble_eq_true rfl) rfl (mm_g 1 (pc1 := 18) (lo1 := [some (.ref 0), some (.int (Int32.ofInt a1)), some (.int (Int32.ofInt a2)), some (.int (Int32.ofInt a3)), some (.ref 179), none]) (st1 := [.int (Int32.ofInt 1)]) (H1 := mz_mk g (mz_tx x)) rfl (mm_rt rfl rfl (hQ 1 g (mz_tx x) hI (mz_xx_tx hx) (fun _ _ _ => rfl) (wdx_1 e_) (fun _ _ _ => rfl)))))) (fun e_ => (mm_HQ_w (E := 1) (hp := 19) (k := 5) (lo2 := [some (.ref 0), some (.int (Int32.ofInt a1)), some (.int (Int32.ofInt a2)), some (.int (Int32.ofInt a3)), some (.ref 179), none]) rfl rfl rfl (Nat.le_of_ble_eq_true rfl) rfl (mm_g 1 (pc1 := 22) (lo1 := [some (.ref 0), some (.int (Int32.ofInt a1)), some (.int (Int32.ofInt a2)), some (.int (Int32.ofInt a3)), some (.ref 179), none]) (st1 := [.int (Int32.ofInt 2)]) (H1 := mz_mk g (mz_tx x)) rfl (mm_rt rfl rfl (hQ 2 g (mz_tx x) hI (mz_xx_tx hx) (fun _ _ _ => rfl) (wdx_2 e_) (fun _ _ _ => rfl)))))))
  show mm_W d mmL_then 10 [some (.ref 0), some (.int (Int32.ofInt a1)), some (.int (Int32.ofInt a2)), some (.int (Int32.ofInt a3)), some (.ref 179), none] [.int (Int32.ofInt r), .int (Int32.ofInt 0), .ref 179] (mz_mk g1 x) Q
  refine mz_i2l rfl ⟨by omega, by omega⟩ ?_
  refine mz_las rfl ?_
  refine mz_gt (tgt := 23) rfl rfl ?_
  exact mm_g 1 (pc1 := 24) (lo1 := [some (.ref 0), some (.int (Int32.ofInt a1)), some (.int (Int32.ofInt a2)), some (.int (Int32.ofInt a3)), some (.ref 179), none]) (st1 := [.int (Int32.ofInt 0)]) (H1 := mz_mk g1 (mz_lx x (Int64.ofInt r))) rfl (mm_rt rfl rfl (hQ 0 g1 (mz_lx x (Int64.ofInt r)) hI1 (mz_xx_lx hx rfl _) (fun k j hk => hf1 k j (nw_X11_then_137 hx k j hk)) (wdx_0 e_) (fun a b z => hf1 a b (fun y => z (nz_X11_then_na hx _ _ y)))))
theorem w_L_blend {d : Nat} (hd : 17 ≤ d) {x : mm_X} (hx : mk_x x) {g : mz_G} (hI : mz_inv g) {a1 : Int} (l_a1 : -2147483648 ≤ a1) (u_a1 : a1 ≤ 2147483647) {a2 : Int} (l_a2 : -2147483648 ≤ a2) (u_a2 : a2 ≤ 2147483647) {a3 : Int} (l_a3 : -2147483648 ≤ a3) (u_a3 : a3 ≤ 2147483647) {Q : (Option Value ⊕ Nat) → mm_H → Prop} (hQ : ∀ (r : Int) (g1 : mz_G) (x1 : mm_X), mz_inv g1 → mz_xx x x1 → (∀ k j : Nat, 137 ≤ k → g1 k j = g k j) → wd x (zF_X11_blend x a1 a2 a3 g) r g1 x1 → (∀ a b : Nat, ¬ na_ x a b → g1 a b = g a b) → Q (.inl (some (.int (Int32.ofInt r)))) (mz_mk g1 x1)) : mm_C d 311 [.ref 0, .int (Int32.ofInt a1), .int (Int32.ofInt a2), .int (Int32.ofInt a3), .ref 179] (mz_mk g x) Q := by
  have kx := kn_x hx
  refine ⟨mmL_blend, [some (.ref 0), some (.int (Int32.ofInt a1)), some (.int (Int32.ofInt a2)), some (.int (Int32.ofInt a3)), some (.ref 179), none], rfl, rfl, ?_⟩
  refine mm_g 6 (pc1 := 7) (lo1 := [some (.ref 0), some (.int (Int32.ofInt a1)), some (.int (Int32.ofInt a2)), some (.int (Int32.ofInt a3)), some (.ref 179), none]) (st1 := [.int (Int32.ofInt a3), .int (Int32.ofInt a2), .int (Int32.ofInt a1), .ref 0, .int (Int32.ofInt 0), .ref 179]) (H1 := mz_mk g x) rfl ?_
  refine mz_cvh rfl mt_13_46 rfl rfl (Nat.le_of_ble_eq_true rfl) (by omega) rfl nh_X11_blend (f_X11_blend (by omega) hx hI l_a1 u_a1 l_a2 u_a2 l_a3 u_a3 (fun r g1 hI1 hf1 l_r u_r e_ => ?_) (fun e_ => (mm_HQ_w (E := 0) (hp := 15) (k := 5) (lo2 := [some (.ref 0), some (.int (Int32.ofInt a1)), some (.int (Int32.ofInt a2)), some (.int (Int32.ofInt a3)), some (.ref 179), none]) rfl rfl rfl (Nat.le_of_ble_eq_true rfl) rfl (mm_g 1 (pc1 := 18) (lo1 := [some (.ref 0), some (.int (Int32.ofInt a1)), some (.int (Int32.ofInt a2)), some (.int (Int32.ofInt a3)), some (.ref 179), none]) (st1 := [.int (Int32.ofInt 1)]) (H1 := mz_mk g (mz_tx x)) rfl (mm_rt rfl rfl (hQ 1 g (mz_tx x) hI (mz_xx_tx hx) (fun _ _ _ => rfl) (wdx_1 e_) (fun _ _ _ => rfl)))))) (fun e_ => (mm_HQ_w (E := 1) (hp := 19) (k := 5) (lo2 := [some (.ref 0), some (.int (Int32.ofInt a1)), some (.int (Int32.ofInt a2)), some (.int (Int32.ofInt a3)), some (.ref 179), none]) rfl rfl rfl (Nat.le_of_ble_eq_true rfl) rfl (mm_g 1 (pc1 := 22) (lo1 := [some (.ref 0), some (.int (Int32.ofInt a1)), some (.int (Int32.ofInt a2)), some (.int (Int32.ofInt a3)), some (.ref 179), none]) (st1 := [.int (Int32.ofInt 2)]) (H1 := mz_mk g (mz_tx x)) rfl (mm_rt rfl rfl (hQ 2 g (mz_tx x) hI (mz_xx_tx hx) (fun _ _ _ => rfl) (wdx_2 e_) (fun _ _ _ => rfl)))))))
  show mm_W d mmL_blend 10 [some (.ref 0), some (.int (Int32.ofInt a1)), some (.int (Int32.ofInt a2)), some (.int (Int32.ofInt a3)), some (.ref 179), none] [.int (Int32.ofInt r), .int (Int32.ofInt 0), .ref 179] (mz_mk g1 x) Q
  refine mz_i2l rfl ⟨by omega, by omega⟩ ?_
  refine mz_las rfl ?_
  refine mz_gt (tgt := 23) rfl rfl ?_
  exact mm_g 1 (pc1 := 24) (lo1 := [some (.ref 0), some (.int (Int32.ofInt a1)), some (.int (Int32.ofInt a2)), some (.int (Int32.ofInt a3)), some (.ref 179), none]) (st1 := [.int (Int32.ofInt 0)]) (H1 := mz_mk g1 (mz_lx x (Int64.ofInt r))) rfl (mm_rt rfl rfl (hQ 0 g1 (mz_lx x (Int64.ofInt r)) hI1 (mz_xx_lx hx rfl _) (fun k j hk => hf1 k j (nw_X11_blend_137 hx k j hk)) (wdx_0 e_) (fun a b z => hf1 a b (fun y => z (nz_X11_blend_na hx _ _ y)))))
theorem w_L_later {d : Nat} (hd : 17 ≤ d) {x : mm_X} (hx : mk_x x) {g : mz_G} (hI : mz_inv g) {a1 : Int} (l_a1 : -2147483648 ≤ a1) (u_a1 : a1 ≤ 2147483647) {a2 : Int} (l_a2 : -2147483648 ≤ a2) (u_a2 : a2 ≤ 2147483647) {Q : (Option Value ⊕ Nat) → mm_H → Prop} (hQ : ∀ (r : Int) (g1 : mz_G) (x1 : mm_X), mz_inv g1 → mz_xx x x1 → (∀ k j : Nat, 137 ≤ k → g1 k j = g k j) → wd x (zF_X11_later x a1 a2 g) r g1 x1 → (∀ a b : Nat, ¬ na_ x a b → g1 a b = g a b) → Q (.inl (some (.int (Int32.ofInt r)))) (mz_mk g1 x1)) : mm_C d 312 [.ref 0, .int (Int32.ofInt a1), .int (Int32.ofInt a2), .ref 179] (mz_mk g x) Q := by
  have kx := kn_x hx
  refine ⟨mmL_later, [some (.ref 0), some (.int (Int32.ofInt a1)), some (.int (Int32.ofInt a2)), some (.ref 179), none], rfl, rfl, ?_⟩
  refine mm_g 5 (pc1 := 5) (lo1 := [some (.ref 0), some (.int (Int32.ofInt a1)), some (.int (Int32.ofInt a2)), some (.ref 179), none]) (st1 := [.int (Int32.ofInt a2), .int (Int32.ofInt a1), .ref 0, .int (Int32.ofInt 0), .ref 179]) (H1 := mz_mk g x) rfl ?_
  refine mz_cvh rfl mt_13_49 rfl rfl (Nat.le_of_ble_eq_true rfl) (by omega) rfl nh_X11_later (f_X11_later (by omega) hx hI l_a1 u_a1 l_a2 u_a2 (fun r g1 hI1 hf1 l_r u_r e_ => ?_) (fun e_ => (mm_HQ_w (E := 0) (hp := 13) (k := 4) (lo2 := [some (.ref 0), some (.int (Int32.ofInt a1)), some (.int (Int32.ofInt a2)), some (.ref 179), none]) rfl rfl rfl (Nat.le_of_ble_eq_true rfl) rfl (mm_g 1 (pc1 := 16) (lo1 := [some (.ref 0), some (.int (Int32.ofInt a1)), some (.int (Int32.ofInt a2)), some (.ref 179), none]) (st1 := [.int (Int32.ofInt 1)]) (H1 := mz_mk g (mz_tx x)) rfl (mm_rt rfl rfl (hQ 1 g (mz_tx x) hI (mz_xx_tx hx) (fun _ _ _ => rfl) (wdx_1 e_) (fun _ _ _ => rfl)))))) (fun e_ => (mm_HQ_w (E := 1) (hp := 17) (k := 4) (lo2 := [some (.ref 0), some (.int (Int32.ofInt a1)), some (.int (Int32.ofInt a2)), some (.ref 179), none]) rfl rfl rfl (Nat.le_of_ble_eq_true rfl) rfl (mm_g 1 (pc1 := 20) (lo1 := [some (.ref 0), some (.int (Int32.ofInt a1)), some (.int (Int32.ofInt a2)), some (.ref 179), none]) (st1 := [.int (Int32.ofInt 2)]) (H1 := mz_mk g (mz_tx x)) rfl (mm_rt rfl rfl (hQ 2 g (mz_tx x) hI (mz_xx_tx hx) (fun _ _ _ => rfl) (wdx_2 e_) (fun _ _ _ => rfl)))))))
  show mm_W d mmL_later 8 [some (.ref 0), some (.int (Int32.ofInt a1)), some (.int (Int32.ofInt a2)), some (.ref 179), none] [.int (Int32.ofInt r), .int (Int32.ofInt 0), .ref 179] (mz_mk g1 x) Q
  refine mz_i2l rfl ⟨by omega, by omega⟩ ?_
  refine mz_las rfl ?_
  refine mz_gt (tgt := 21) rfl rfl ?_
  exact mm_g 1 (pc1 := 22) (lo1 := [some (.ref 0), some (.int (Int32.ofInt a1)), some (.int (Int32.ofInt a2)), some (.ref 179), none]) (st1 := [.int (Int32.ofInt 0)]) (H1 := mz_mk g1 (mz_lx x (Int64.ofInt r))) rfl (mm_rt rfl rfl (hQ 0 g1 (mz_lx x (Int64.ofInt r)) hI1 (mz_xx_lx hx rfl _) (fun k j hk => hf1 k j (nw_X11_later_137 hx k j hk)) (wdx_0 e_) (fun a b z => hf1 a b (fun y => z (nz_X11_later_na hx _ _ y)))))
theorem w_L_full {d : Nat} (hd : 16 ≤ d) {x : mm_X} (hx : mk_x x) {g : mz_G} (hI : mz_inv g) {a1 : Int} (l_a1 : -2147483648 ≤ a1) (u_a1 : a1 ≤ 2147483647) {Q : (Option Value ⊕ Nat) → mm_H → Prop} (hQ : ∀ (r : Int) (g1 : mz_G) (x1 : mm_X), mz_inv g1 → mz_xx x x1 → (∀ k j : Nat, 137 ≤ k → g1 k j = g k j) → wd x (zF_X11_full x a1 g) r g1 x1 → (∀ a b : Nat, ¬ na_ x a b → g1 a b = g a b) → Q (.inl (some (.int (Int32.ofInt r)))) (mz_mk g1 x1)) : mm_C d 313 [.ref 0, .int (Int32.ofInt a1), .ref 179] (mz_mk g x) Q := by
  have kx := kn_x hx
  refine ⟨mmL_full, [some (.ref 0), some (.int (Int32.ofInt a1)), some (.ref 179), none], rfl, rfl, ?_⟩
  refine mm_g 4 (pc1 := 4) (lo1 := [some (.ref 0), some (.int (Int32.ofInt a1)), some (.ref 179), none]) (st1 := [.int (Int32.ofInt a1), .ref 0, .int (Int32.ofInt 0), .ref 179]) (H1 := mz_mk g x) rfl ?_
  refine mz_cvh rfl mt_13_52 rfl rfl (Nat.le_of_ble_eq_true rfl) (by omega) rfl nh_X11_full (f_X11_full (by omega) hx hI l_a1 u_a1 (fun r g1 hI1 hf1 l_r u_r e_ => ?_) (fun e_ => (mm_HQ_n (E := 0) (hp := 12) (k := 3) (lo2 := [some (.ref 0), some (.int (Int32.ofInt a1)), some (.ref 179), none]) rfl rfl rfl (Nat.le_of_ble_eq_true rfl) rfl (mm_g 1 (pc1 := 14) (lo1 := [some (.ref 0), some (.int (Int32.ofInt a1)), some (.ref 179), none]) (st1 := [.int (Int32.ofInt 1)]) (H1 := mz_mk g (mz_tx x)) rfl (mm_rt rfl rfl (hQ 1 g (mz_tx x) hI (mz_xx_tx hx) (fun _ _ _ => rfl) (wdx_1 e_) (fun _ _ _ => rfl)))))))
  show mm_W d mmL_full 7 [some (.ref 0), some (.int (Int32.ofInt a1)), some (.ref 179), none] [.int (Int32.ofInt r), .int (Int32.ofInt 0), .ref 179] (mz_mk g1 x) Q
  refine mz_i2l rfl ⟨by omega, by omega⟩ ?_
  refine mz_las rfl ?_
  refine mz_gt (tgt := 15) rfl rfl ?_
  exact mm_g 1 (pc1 := 16) (lo1 := [some (.ref 0), some (.int (Int32.ofInt a1)), some (.ref 179), none]) (st1 := [.int (Int32.ofInt 0)]) (H1 := mz_mk g1 (mz_lx x (Int64.ofInt r))) rfl (mm_rt rfl rfl (hQ 0 g1 (mz_lx x (Int64.ofInt r)) hI1 (mz_xx_lx hx rfl _) (fun k j hk => hf1 k j (nw_X11_full_137 hx k j hk)) (wdx_0 e_) (fun a b z => hf1 a b (fun y => z (nz_X11_full_na hx _ _ y)))))
theorem w_L_read {d : Nat} (hd : 16 ≤ d) {x : mm_X} (hx : mk_x x) {g : mz_G} (hI : mz_inv g) {a1 : Int} (l_a1 : -2147483648 ≤ a1) (u_a1 : a1 ≤ 2147483647) {a2 : Int} (l_a2 : -2147483648 ≤ a2) (u_a2 : a2 ≤ 2147483647) {Q : (Option Value ⊕ Nat) → mm_H → Prop} (hQ : ∀ (r : Int) (g1 : mz_G) (x1 : mm_X), mz_inv g1 → mz_xx x x1 → (∀ k j : Nat, 137 ≤ k → g1 k j = g k j) → wd x (zF_X11_read x a1 a2 g) r g1 x1 → (∀ a b : Nat, ¬ na_ x a b → g1 a b = g a b) → Q (.inl (some (.int (Int32.ofInt r)))) (mz_mk g1 x1)) : mm_C d 314 [.ref 0, .int (Int32.ofInt a1), .int (Int32.ofInt a2), .ref 179] (mz_mk g x) Q := by
  have kx := kn_x hx
  refine ⟨mmL_read, [some (.ref 0), some (.int (Int32.ofInt a1)), some (.int (Int32.ofInt a2)), some (.ref 179), none], rfl, rfl, ?_⟩
  refine mm_g 5 (pc1 := 5) (lo1 := [some (.ref 0), some (.int (Int32.ofInt a1)), some (.int (Int32.ofInt a2)), some (.ref 179), none]) (st1 := [.int (Int32.ofInt a2), .int (Int32.ofInt a1), .ref 0, .int (Int32.ofInt 0), .ref 179]) (H1 := mz_mk g x) rfl ?_
  refine mz_cvh rfl mt_13_55 rfl rfl (Nat.le_of_ble_eq_true rfl) (by omega) rfl nh_X11_read (f_X11_read (by omega) hx hI l_a1 u_a1 l_a2 u_a2 (fun r g1 hI1 hf1 l_r u_r e_ => ?_) (fun e_ => (mm_HQ_w (E := 0) (hp := 13) (k := 4) (lo2 := [some (.ref 0), some (.int (Int32.ofInt a1)), some (.int (Int32.ofInt a2)), some (.ref 179), none]) rfl rfl rfl (Nat.le_of_ble_eq_true rfl) rfl (mm_g 1 (pc1 := 16) (lo1 := [some (.ref 0), some (.int (Int32.ofInt a1)), some (.int (Int32.ofInt a2)), some (.ref 179), none]) (st1 := [.int (Int32.ofInt 1)]) (H1 := mz_mk g (mz_tx x)) rfl (mm_rt rfl rfl (hQ 1 g (mz_tx x) hI (mz_xx_tx hx) (fun _ _ _ => rfl) (wdx_1 e_) (fun _ _ _ => rfl)))))))
  show mm_W d mmL_read 8 [some (.ref 0), some (.int (Int32.ofInt a1)), some (.int (Int32.ofInt a2)), some (.ref 179), none] [.int (Int32.ofInt r), .int (Int32.ofInt 0), .ref 179] (mz_mk g1 x) Q
  refine mz_i2l rfl ⟨by omega, by omega⟩ ?_
  refine mz_las rfl ?_
  refine mz_gt (tgt := 17) rfl rfl ?_
  exact mm_g 1 (pc1 := 18) (lo1 := [some (.ref 0), some (.int (Int32.ofInt a1)), some (.int (Int32.ofInt a2)), some (.ref 179), none]) (st1 := [.int (Int32.ofInt 0)]) (H1 := mz_mk g1 (mz_lx x (Int64.ofInt r))) rfl (mm_rt rfl rfl (hQ 0 g1 (mz_lx x (Int64.ofInt r)) hI1 (mz_xx_lx hx rfl _) (fun k j hk => hf1 k j (nw_X11_read_137 hx k j hk)) (wdx_0 e_) (fun a b z => hf1 a b (fun y => z (nz_X11_read_na hx _ _ y)))))
theorem w_L_alike {d : Nat} (hd : 16 ≤ d) {x : mm_X} (hx : mk_x x) {g : mz_G} (hI : mz_inv g) {a1 : Int} (l_a1 : -2147483648 ≤ a1) (u_a1 : a1 ≤ 2147483647) {a2 : Int} (l_a2 : -2147483648 ≤ a2) (u_a2 : a2 ≤ 2147483647) {Q : (Option Value ⊕ Nat) → mm_H → Prop} (hQ : ∀ (r : Int) (g1 : mz_G) (x1 : mm_X), mz_inv g1 → mz_xx x x1 → (∀ k j : Nat, 137 ≤ k → g1 k j = g k j) → wd x (zF_X11_alike x a1 a2 g) r g1 x1 → (∀ a b : Nat, ¬ na_ x a b → g1 a b = g a b) → Q (.inl (some (.int (Int32.ofInt r)))) (mz_mk g1 x1)) : mm_C d 315 [.ref 0, .int (Int32.ofInt a1), .int (Int32.ofInt a2), .ref 179] (mz_mk g x) Q := by
  have kx := kn_x hx
  refine ⟨mmL_alike, [some (.ref 0), some (.int (Int32.ofInt a1)), some (.int (Int32.ofInt a2)), some (.ref 179), none], rfl, rfl, ?_⟩
  refine mm_g 5 (pc1 := 5) (lo1 := [some (.ref 0), some (.int (Int32.ofInt a1)), some (.int (Int32.ofInt a2)), some (.ref 179), none]) (st1 := [.int (Int32.ofInt a2), .int (Int32.ofInt a1), .ref 0, .int (Int32.ofInt 0), .ref 179]) (H1 := mz_mk g x) rfl ?_
  refine mz_cvh rfl mt_13_58 rfl rfl (Nat.le_of_ble_eq_true rfl) (by omega) rfl nh_X11_alike (f_X11_alike (by omega) hx hI l_a1 u_a1 l_a2 u_a2 (fun r g1 hI1 hf1 l_r u_r e_ => ?_) (fun e_ => (mm_HQ_w (E := 0) (hp := 13) (k := 4) (lo2 := [some (.ref 0), some (.int (Int32.ofInt a1)), some (.int (Int32.ofInt a2)), some (.ref 179), none]) rfl rfl rfl (Nat.le_of_ble_eq_true rfl) rfl (mm_g 1 (pc1 := 16) (lo1 := [some (.ref 0), some (.int (Int32.ofInt a1)), some (.int (Int32.ofInt a2)), some (.ref 179), none]) (st1 := [.int (Int32.ofInt 1)]) (H1 := mz_mk g (mz_tx x)) rfl (mm_rt rfl rfl (hQ 1 g (mz_tx x) hI (mz_xx_tx hx) (fun _ _ _ => rfl) (wdx_1 e_) (fun _ _ _ => rfl)))))))
  show mm_W d mmL_alike 8 [some (.ref 0), some (.int (Int32.ofInt a1)), some (.int (Int32.ofInt a2)), some (.ref 179), none] [.int (Int32.ofInt r), .int (Int32.ofInt 0), .ref 179] (mz_mk g1 x) Q
  refine mz_i2l rfl ⟨by omega, by omega⟩ ?_
  refine mz_las rfl ?_
  refine mz_gt (tgt := 17) rfl rfl ?_
  exact mm_g 1 (pc1 := 18) (lo1 := [some (.ref 0), some (.int (Int32.ofInt a1)), some (.int (Int32.ofInt a2)), some (.ref 179), none]) (st1 := [.int (Int32.ofInt 0)]) (H1 := mz_mk g1 (mz_lx x (Int64.ofInt r))) rfl (mm_rt rfl rfl (hQ 0 g1 (mz_lx x (Int64.ofInt r)) hI1 (mz_xx_lx hx rfl _) (fun k j hk => hf1 k j (nw_X11_alike_137 hx k j hk)) (wdx_0 e_) (fun a b z => hf1 a b (fun y => z (nz_X11_alike_na hx _ _ y)))))
theorem w_L_both {d : Nat} (hd : 14 ≤ d) {x : mm_X} (hx : mk_x x) {g : mz_G} (hI : mz_inv g) {a1 : Int} (l_a1 : -2147483648 ≤ a1) (u_a1 : a1 ≤ 2147483647) {a2 : Int} (l_a2 : -2147483648 ≤ a2) (u_a2 : a2 ≤ 2147483647) {a3 : Int} (l_a3 : -2147483648 ≤ a3) (u_a3 : a3 ≤ 2147483647) {Q : (Option Value ⊕ Nat) → mm_H → Prop} (hQ : ∀ (r : Int) (g1 : mz_G) (x1 : mm_X), mz_inv g1 → mz_xx x x1 → (∀ k j : Nat, 137 ≤ k → g1 k j = g k j) → wd x (zF_X11_both x a1 a2 a3 g) r g1 x1 → (∀ a b : Nat, ¬ na_ x a b → g1 a b = g a b) → Q (.inl (some (.int (Int32.ofInt r)))) (mz_mk g1 x1)) : mm_C d 316 [.ref 0, .int (Int32.ofInt a1), .int (Int32.ofInt a2), .int (Int32.ofInt a3), .ref 179] (mz_mk g x) Q := by
  have kx := kn_x hx
  refine ⟨mmL_both, [some (.ref 0), some (.int (Int32.ofInt a1)), some (.int (Int32.ofInt a2)), some (.int (Int32.ofInt a3)), some (.ref 179), none], rfl, rfl, ?_⟩
  refine mm_g 6 (pc1 := 7) (lo1 := [some (.ref 0), some (.int (Int32.ofInt a1)), some (.int (Int32.ofInt a2)), some (.int (Int32.ofInt a3)), some (.ref 179), none]) (st1 := [.int (Int32.ofInt a3), .int (Int32.ofInt a2), .int (Int32.ofInt a1), .ref 0, .int (Int32.ofInt 0), .ref 179]) (H1 := mz_mk g x) rfl ?_
  refine mz_cvh rfl mt_13_61 rfl rfl (Nat.le_of_ble_eq_true rfl) (by omega) rfl nh_X11_both (f_X11_both (by omega) hx hI l_a1 u_a1 l_a2 u_a2 l_a3 u_a3 (fun r g1 hI1 hf1 l_r u_r e_ => ?_) (fun e_ => (mm_HQ_w (E := 0) (hp := 15) (k := 5) (lo2 := [some (.ref 0), some (.int (Int32.ofInt a1)), some (.int (Int32.ofInt a2)), some (.int (Int32.ofInt a3)), some (.ref 179), none]) rfl rfl rfl (Nat.le_of_ble_eq_true rfl) rfl (mm_g 1 (pc1 := 18) (lo1 := [some (.ref 0), some (.int (Int32.ofInt a1)), some (.int (Int32.ofInt a2)), some (.int (Int32.ofInt a3)), some (.ref 179), none]) (st1 := [.int (Int32.ofInt 1)]) (H1 := mz_mk g (mz_tx x)) rfl (mm_rt rfl rfl (hQ 1 g (mz_tx x) hI (mz_xx_tx hx) (fun _ _ _ => rfl) (wdx_1 e_) (fun _ _ _ => rfl)))))))
  show mm_W d mmL_both 10 [some (.ref 0), some (.int (Int32.ofInt a1)), some (.int (Int32.ofInt a2)), some (.int (Int32.ofInt a3)), some (.ref 179), none] [.int (Int32.ofInt r), .int (Int32.ofInt 0), .ref 179] (mz_mk g1 x) Q
  refine mz_i2l rfl ⟨by omega, by omega⟩ ?_
  refine mz_las rfl ?_
  refine mz_gt (tgt := 19) rfl rfl ?_
  exact mm_g 1 (pc1 := 20) (lo1 := [some (.ref 0), some (.int (Int32.ofInt a1)), some (.int (Int32.ofInt a2)), some (.int (Int32.ofInt a3)), some (.ref 179), none]) (st1 := [.int (Int32.ofInt 0)]) (H1 := mz_mk g1 (mz_lx x (Int64.ofInt r))) rfl (mm_rt rfl rfl (hQ 0 g1 (mz_lx x (Int64.ofInt r)) hI1 (mz_xx_lx hx rfl _) (fun k j hk => hf1 k j (nw_X11_both_137 hx k j hk)) (wdx_0 e_) (fun a b z => hf1 a b (fun y => z (nz_X11_both_na hx _ _ y)))))
theorem w_L_row {d : Nat} (hd : 14 ≤ d) {x : mm_X} (hx : mk_x x) {g : mz_G} (hI : mz_inv g) {a1 : Int} (l_a1 : -2147483648 ≤ a1) (u_a1 : a1 ≤ 2147483647) {Q : (Option Value ⊕ Nat) → mm_H → Prop} (hQ : ∀ (r : Int) (g1 : mz_G) (x1 : mm_X), mz_inv g1 → mz_xx x x1 → (∀ k j : Nat, 137 ≤ k → g1 k j = g k j) → wd x (zF_X11_row x a1 g) r g1 x1 → (∀ a b : Nat, ¬ na_ x a b → g1 a b = g a b) → Q (.inl (some (.int (Int32.ofInt r)))) (mz_mk g1 x1)) : mm_C d 317 [.ref 0, .int (Int32.ofInt a1), .ref 179] (mz_mk g x) Q := by
  have kx := kn_x hx
  refine ⟨mmL_row, [some (.ref 0), some (.int (Int32.ofInt a1)), some (.ref 179), none], rfl, rfl, ?_⟩
  refine mm_g 4 (pc1 := 4) (lo1 := [some (.ref 0), some (.int (Int32.ofInt a1)), some (.ref 179), none]) (st1 := [.int (Int32.ofInt a1), .ref 0, .int (Int32.ofInt 0), .ref 179]) (H1 := mz_mk g x) rfl ?_
  refine mz_cvh rfl mt_13_64 rfl rfl (Nat.le_of_ble_eq_true rfl) (by omega) rfl nh_X11_row (f_X11_row (by omega) hx hI l_a1 u_a1 (fun r l_r u_r e_ => ?_) (fun e_ => (mm_HQ_n (E := 0) (hp := 12) (k := 3) (lo2 := [some (.ref 0), some (.int (Int32.ofInt a1)), some (.ref 179), none]) rfl rfl rfl (Nat.le_of_ble_eq_true rfl) rfl (mm_g 1 (pc1 := 14) (lo1 := [some (.ref 0), some (.int (Int32.ofInt a1)), some (.ref 179), none]) (st1 := [.int (Int32.ofInt 1)]) (H1 := mz_mk g (mz_tx x)) rfl (mm_rt rfl rfl (hQ 1 g (mz_tx x) hI (mz_xx_tx hx) (fun _ _ _ => rfl) (wdx_1 e_) (fun _ _ _ => rfl)))))))
  show mm_W d mmL_row 7 [some (.ref 0), some (.int (Int32.ofInt a1)), some (.ref 179), none] [.int (Int32.ofInt r), .int (Int32.ofInt 0), .ref 179] (mz_mk g x) Q
  refine mz_i2l rfl ⟨by omega, by omega⟩ ?_
  refine mz_las rfl ?_
  refine mz_gt (tgt := 15) rfl rfl ?_
  exact mm_g 1 (pc1 := 16) (lo1 := [some (.ref 0), some (.int (Int32.ofInt a1)), some (.ref 179), none]) (st1 := [.int (Int32.ofInt 0)]) (H1 := mz_mk g (mz_lx x (Int64.ofInt r))) rfl (mm_rt rfl rfl (hQ 0 g (mz_lx x (Int64.ofInt r)) hI (mz_xx_lx hx rfl _) (fun _ _ _ => rfl) (wdx_0 e_) (fun _ _ _ => rfl)))
theorem w_L_chain {d : Nat} (hd : 14 ≤ d) {x : mm_X} (hx : mk_x x) {g : mz_G} (hI : mz_inv g) {a1 : Int} (l_a1 : -2147483648 ≤ a1) (u_a1 : a1 ≤ 2147483647) {Q : (Option Value ⊕ Nat) → mm_H → Prop} (hQ : ∀ (r : Int) (g1 : mz_G) (x1 : mm_X), mz_inv g1 → mz_xx x x1 → (∀ k j : Nat, 137 ≤ k → g1 k j = g k j) → wd x (zF_X11_chain x a1 g) r g1 x1 → (∀ a b : Nat, ¬ na_ x a b → g1 a b = g a b) → Q (.inl (some (.int (Int32.ofInt r)))) (mz_mk g1 x1)) : mm_C d 318 [.ref 0, .int (Int32.ofInt a1), .ref 179] (mz_mk g x) Q := by
  have kx := kn_x hx
  refine ⟨mmL_chain, [some (.ref 0), some (.int (Int32.ofInt a1)), some (.ref 179), none], rfl, rfl, ?_⟩
  refine mm_g 4 (pc1 := 4) (lo1 := [some (.ref 0), some (.int (Int32.ofInt a1)), some (.ref 179), none]) (st1 := [.int (Int32.ofInt a1), .ref 0, .int (Int32.ofInt 0), .ref 179]) (H1 := mz_mk g x) rfl ?_
  refine mz_cvh rfl mt_13_67 rfl rfl (Nat.le_of_ble_eq_true rfl) (by omega) rfl nh_X11_chain (f_X11_chain (by omega) hx hI l_a1 u_a1 (fun r l_r u_r e_ => ?_) (fun e_ => (mm_HQ_n (E := 0) (hp := 12) (k := 3) (lo2 := [some (.ref 0), some (.int (Int32.ofInt a1)), some (.ref 179), none]) rfl rfl rfl (Nat.le_of_ble_eq_true rfl) rfl (mm_g 1 (pc1 := 14) (lo1 := [some (.ref 0), some (.int (Int32.ofInt a1)), some (.ref 179), none]) (st1 := [.int (Int32.ofInt 1)]) (H1 := mz_mk g (mz_tx x)) rfl (mm_rt rfl rfl (hQ 1 g (mz_tx x) hI (mz_xx_tx hx) (fun _ _ _ => rfl) (wdx_1 e_) (fun _ _ _ => rfl)))))))
  show mm_W d mmL_chain 7 [some (.ref 0), some (.int (Int32.ofInt a1)), some (.ref 179), none] [.int (Int32.ofInt r), .int (Int32.ofInt 0), .ref 179] (mz_mk g x) Q
  refine mz_i2l rfl ⟨by omega, by omega⟩ ?_
  refine mz_las rfl ?_
  refine mz_gt (tgt := 15) rfl rfl ?_
  exact mm_g 1 (pc1 := 16) (lo1 := [some (.ref 0), some (.int (Int32.ofInt a1)), some (.ref 179), none]) (st1 := [.int (Int32.ofInt 0)]) (H1 := mz_mk g (mz_lx x (Int64.ofInt r))) rfl (mm_rt rfl rfl (hQ 0 g (mz_lx x (Int64.ofInt r)) hI (mz_xx_lx hx rfl _) (fun _ _ _ => rfl) (wdx_0 e_) (fun _ _ _ => rfl)))
theorem w_L_toDraw {d : Nat} (hd : 17 ≤ d) {x : mm_X} (hx : mk_x x) {g : mz_G} (hI : mz_inv g) {a1 : Int} (l_a1 : -2147483648 ≤ a1) (u_a1 : a1 ≤ 2147483647) {a2 : Int} (l_a2 : -2147483648 ≤ a2) (u_a2 : a2 ≤ 2147483647) {Q : (Option Value ⊕ Nat) → mm_H → Prop} (hQ : ∀ (r : Int) (g1 : mz_G) (x1 : mm_X), mz_inv g1 → mz_xx x x1 → (∀ k j : Nat, 137 ≤ k → g1 k j = g k j) → wd x (zF_X11_toDraw x a1 a2 g) r g1 x1 → (∀ a b : Nat, ¬ na_ x a b → g1 a b = g a b) → Q (.inl (some (.int (Int32.ofInt r)))) (mz_mk g1 x1)) : mm_C d 319 [.ref 0, .int (Int32.ofInt a1), .int (Int32.ofInt a2), .ref 179] (mz_mk g x) Q := by
  have kx := kn_x hx
  refine ⟨mmL_toDraw, [some (.ref 0), some (.int (Int32.ofInt a1)), some (.int (Int32.ofInt a2)), some (.ref 179), none], rfl, rfl, ?_⟩
  refine mm_g 5 (pc1 := 5) (lo1 := [some (.ref 0), some (.int (Int32.ofInt a1)), some (.int (Int32.ofInt a2)), some (.ref 179), none]) (st1 := [.int (Int32.ofInt a2), .int (Int32.ofInt a1), .ref 0, .int (Int32.ofInt 0), .ref 179]) (H1 := mz_mk g x) rfl ?_
  refine mz_cvh rfl mt_13_70 rfl rfl (Nat.le_of_ble_eq_true rfl) (by omega) rfl nh_X11_toDraw (f_X11_toDraw (by omega) hx hI l_a1 u_a1 l_a2 u_a2 (fun r g1 hI1 hf1 l_r u_r e_ => ?_) (fun e_ => (mm_HQ_w (E := 0) (hp := 13) (k := 4) (lo2 := [some (.ref 0), some (.int (Int32.ofInt a1)), some (.int (Int32.ofInt a2)), some (.ref 179), none]) rfl rfl rfl (Nat.le_of_ble_eq_true rfl) rfl (mm_g 1 (pc1 := 16) (lo1 := [some (.ref 0), some (.int (Int32.ofInt a1)), some (.int (Int32.ofInt a2)), some (.ref 179), none]) (st1 := [.int (Int32.ofInt 1)]) (H1 := mz_mk g (mz_tx x)) rfl (mm_rt rfl rfl (hQ 1 g (mz_tx x) hI (mz_xx_tx hx) (fun _ _ _ => rfl) (wdx_1 e_) (fun _ _ _ => rfl)))))) (fun e_ => (mm_HQ_w (E := 1) (hp := 17) (k := 4) (lo2 := [some (.ref 0), some (.int (Int32.ofInt a1)), some (.int (Int32.ofInt a2)), some (.ref 179), none]) rfl rfl rfl (Nat.le_of_ble_eq_true rfl) rfl (mm_g 1 (pc1 := 20) (lo1 := [some (.ref 0), some (.int (Int32.ofInt a1)), some (.int (Int32.ofInt a2)), some (.ref 179), none]) (st1 := [.int (Int32.ofInt 2)]) (H1 := mz_mk g (mz_tx x)) rfl (mm_rt rfl rfl (hQ 2 g (mz_tx x) hI (mz_xx_tx hx) (fun _ _ _ => rfl) (wdx_2 e_) (fun _ _ _ => rfl)))))))
  show mm_W d mmL_toDraw 8 [some (.ref 0), some (.int (Int32.ofInt a1)), some (.int (Int32.ofInt a2)), some (.ref 179), none] [.int (Int32.ofInt r), .int (Int32.ofInt 0), .ref 179] (mz_mk g1 x) Q
  refine mz_i2l rfl ⟨by omega, by omega⟩ ?_
  refine mz_las rfl ?_
  refine mz_gt (tgt := 21) rfl rfl ?_
  exact mm_g 1 (pc1 := 22) (lo1 := [some (.ref 0), some (.int (Int32.ofInt a1)), some (.int (Int32.ofInt a2)), some (.ref 179), none]) (st1 := [.int (Int32.ofInt 0)]) (H1 := mz_mk g1 (mz_lx x (Int64.ofInt r))) rfl (mm_rt rfl rfl (hQ 0 g1 (mz_lx x (Int64.ofInt r)) hI1 (mz_xx_lx hx rfl _) (fun k j hk => hf1 k j (nw_X11_toDraw_137 hx k j hk)) (wdx_0 e_) (fun a b z => hf1 a b (fun y => z (nz_X11_toDraw_na hx _ _ y)))))
theorem w_L_see {d : Nat} (hd : 14 ≤ d) {x : mm_X} (hx : mk_x x) {g : mz_G} (hI : mz_inv g) {a1 : Int} (l_a1 : -2147483648 ≤ a1) (u_a1 : a1 ≤ 2147483647) {a2 : Int} (l_a2 : -2147483648 ≤ a2) (u_a2 : a2 ≤ 2147483647) {a3 : Int} (l_a3 : -2147483648 ≤ a3) (u_a3 : a3 ≤ 2147483647) {Q : (Option Value ⊕ Nat) → mm_H → Prop} (hQ : ∀ (r : Int) (g1 : mz_G) (x1 : mm_X), mz_inv g1 → mz_xx x x1 → (∀ k j : Nat, 137 ≤ k → g1 k j = g k j) → wd x (zF_X11_see x a1 a2 a3 g) r g1 x1 → (∀ a b : Nat, x.1 ≤ a → a ≤ x.1 + 37 → g1 a b = g a b) → Q (.inl (some (.int (Int32.ofInt r)))) (mz_mk g1 x1)) : mm_C d 320 [.ref 0, .int (Int32.ofInt a1), .int (Int32.ofInt a2), .int (Int32.ofInt a3), .ref 179] (mz_mk g x) Q := by
  have kx := kn_x hx
  refine ⟨mmL_see, [some (.ref 0), some (.int (Int32.ofInt a1)), some (.int (Int32.ofInt a2)), some (.int (Int32.ofInt a3)), some (.ref 179), none], rfl, rfl, ?_⟩
  refine mm_g 6 (pc1 := 7) (lo1 := [some (.ref 0), some (.int (Int32.ofInt a1)), some (.int (Int32.ofInt a2)), some (.int (Int32.ofInt a3)), some (.ref 179), none]) (st1 := [.int (Int32.ofInt a3), .int (Int32.ofInt a2), .int (Int32.ofInt a1), .ref 0, .int (Int32.ofInt 0), .ref 179]) (H1 := mz_mk g x) rfl ?_
  refine mz_cvh rfl mt_13_73 rfl rfl (Nat.le_of_ble_eq_true rfl) (by omega) rfl nh_X11_see (f_X11_see (by omega) hx hI l_a1 u_a1 l_a2 u_a2 l_a3 u_a3 (fun r g1 hI1 hf1 l_r u_r e_ => ?_) (fun e_ => (mm_HQ_w (E := 0) (hp := 15) (k := 5) (lo2 := [some (.ref 0), some (.int (Int32.ofInt a1)), some (.int (Int32.ofInt a2)), some (.int (Int32.ofInt a3)), some (.ref 179), none]) rfl rfl rfl (Nat.le_of_ble_eq_true rfl) rfl (mm_g 1 (pc1 := 18) (lo1 := [some (.ref 0), some (.int (Int32.ofInt a1)), some (.int (Int32.ofInt a2)), some (.int (Int32.ofInt a3)), some (.ref 179), none]) (st1 := [.int (Int32.ofInt 1)]) (H1 := mz_mk g (mz_tx x)) rfl (mm_rt rfl rfl (hQ 1 g (mz_tx x) hI (mz_xx_tx hx) (fun _ _ _ => rfl) (wdx_1 e_) (fun _ _ _ _ => rfl)))))))
  show mm_W d mmL_see 10 [some (.ref 0), some (.int (Int32.ofInt a1)), some (.int (Int32.ofInt a2)), some (.int (Int32.ofInt a3)), some (.ref 179), none] [.int (Int32.ofInt r), .int (Int32.ofInt 0), .ref 179] (mz_mk g1 x) Q
  refine mz_i2l rfl ⟨by omega, by omega⟩ ?_
  refine mz_las rfl ?_
  refine mz_gt (tgt := 19) rfl rfl ?_
  exact mm_g 1 (pc1 := 20) (lo1 := [some (.ref 0), some (.int (Int32.ofInt a1)), some (.int (Int32.ofInt a2)), some (.int (Int32.ofInt a3)), some (.ref 179), none]) (st1 := [.int (Int32.ofInt 0)]) (H1 := mz_mk g1 (mz_lx x (Int64.ofInt r))) rfl (mm_rt rfl rfl (hQ 0 g1 (mz_lx x (Int64.ofInt r)) hI1 (mz_xx_lx hx rfl _) (fun k j hk => hf1 k j (nw_X11_see_137 hx k j hk)) (wdx_0 e_) (fun a b z1 z2 => hf1 a b (fun y => (nz_X11_see_ld hx _ _ y) ⟨z1, z2⟩))))
theorem w_L_loose {d : Nat} (hd : 18 ≤ d) {x : mm_X} (hx : mk_x x) {g : mz_G} (hI : mz_inv g) {a1 : Int} (l_a1 : -2147483648 ≤ a1) (u_a1 : a1 ≤ 2147483647) {Q : (Option Value ⊕ Nat) → mm_H → Prop} (hQ : ∀ (r : Int) (g1 : mz_G) (x1 : mm_X), mz_inv g1 → mz_xx x x1 → (∀ k j : Nat, 137 ≤ k → g1 k j = g k j) → wd x (zF_X11_loose x a1 g) r g1 x1 → (∀ a b : Nat, ¬ na_ x a b → g1 a b = g a b) → Q (.inl (some (.int (Int32.ofInt r)))) (mz_mk g1 x1)) : mm_C d 321 [.ref 0, .int (Int32.ofInt a1), .ref 179] (mz_mk g x) Q := by
  have kx := kn_x hx
  refine ⟨mmL_loose, [some (.ref 0), some (.int (Int32.ofInt a1)), some (.ref 179), none], rfl, rfl, ?_⟩
  refine mm_g 4 (pc1 := 4) (lo1 := [some (.ref 0), some (.int (Int32.ofInt a1)), some (.ref 179), none]) (st1 := [.int (Int32.ofInt a1), .ref 0, .int (Int32.ofInt 0), .ref 179]) (H1 := mz_mk g x) rfl ?_
  refine mz_cvh rfl mt_13_76 rfl rfl (Nat.le_of_ble_eq_true rfl) (by omega) rfl nh_X11_loose (f_X11_loose (by omega) hx hI l_a1 u_a1 (fun r g1 hI1 hf1 l_r u_r e_ => ?_) (fun e_ => (mm_HQ_n (E := 0) (hp := 12) (k := 3) (lo2 := [some (.ref 0), some (.int (Int32.ofInt a1)), some (.ref 179), none]) rfl rfl rfl (Nat.le_of_ble_eq_true rfl) rfl (mm_g 1 (pc1 := 14) (lo1 := [some (.ref 0), some (.int (Int32.ofInt a1)), some (.ref 179), none]) (st1 := [.int (Int32.ofInt 1)]) (H1 := mz_mk g (mz_tx x)) rfl (mm_rt rfl rfl (hQ 1 g (mz_tx x) hI (mz_xx_tx hx) (fun _ _ _ => rfl) (wdx_1 e_) (fun _ _ _ => rfl)))))))
  show mm_W d mmL_loose 7 [some (.ref 0), some (.int (Int32.ofInt a1)), some (.ref 179), none] [.int (Int32.ofInt r), .int (Int32.ofInt 0), .ref 179] (mz_mk g1 x) Q
  refine mz_i2l rfl ⟨by omega, by omega⟩ ?_
  refine mz_las rfl ?_
  refine mz_gt (tgt := 15) rfl rfl ?_
  exact mm_g 1 (pc1 := 16) (lo1 := [some (.ref 0), some (.int (Int32.ofInt a1)), some (.ref 179), none]) (st1 := [.int (Int32.ofInt 0)]) (H1 := mz_mk g1 (mz_lx x (Int64.ofInt r))) rfl (mm_rt rfl rfl (hQ 0 g1 (mz_lx x (Int64.ofInt r)) hI1 (mz_xx_lx hx rfl _) (fun k j hk => hf1 k j (nw_X11_loose_137 hx k j hk)) (wdx_0 e_) (fun a b z => hf1 a b (fun y => z (nz_X11_loose_na hx _ _ y)))))
theorem w_L_look {d : Nat} (hd : 18 ≤ d) {x : mm_X} (hx : mk_x x) {g : mz_G} (hI : mz_inv g) {a1 : Int} (l_a1 : -2147483648 ≤ a1) (u_a1 : a1 ≤ 2147483647) {Q : (Option Value ⊕ Nat) → mm_H → Prop} (hQ : ∀ (r : Int) (g1 : mz_G) (x1 : mm_X), mz_inv g1 → mz_xx x x1 → (∀ k j : Nat, 137 ≤ k → g1 k j = g k j) → wd x (zF_X11_look x a1 g) r g1 x1 → (∀ a b : Nat, ¬ na_ x a b → g1 a b = g a b) → Q (.inl (some (.int (Int32.ofInt r)))) (mz_mk g1 x1)) : mm_C d 322 [.ref 0, .int (Int32.ofInt a1), .ref 179] (mz_mk g x) Q := by
  have kx := kn_x hx
  refine ⟨mmL_look, [some (.ref 0), some (.int (Int32.ofInt a1)), some (.ref 179), none], rfl, rfl, ?_⟩
  refine mm_g 4 (pc1 := 4) (lo1 := [some (.ref 0), some (.int (Int32.ofInt a1)), some (.ref 179), none]) (st1 := [.int (Int32.ofInt a1), .ref 0, .int (Int32.ofInt 0), .ref 179]) (H1 := mz_mk g x) rfl ?_
  refine mz_cvh rfl mt_13_79 rfl rfl (Nat.le_of_ble_eq_true rfl) (by omega) rfl nh_X11_look (f_X11_look (by omega) hx hI l_a1 u_a1 (fun r g1 hI1 hf1 l_r u_r e_ => ?_) (fun e_ => (mm_HQ_n (E := 0) (hp := 12) (k := 3) (lo2 := [some (.ref 0), some (.int (Int32.ofInt a1)), some (.ref 179), none]) rfl rfl rfl (Nat.le_of_ble_eq_true rfl) rfl (mm_g 1 (pc1 := 14) (lo1 := [some (.ref 0), some (.int (Int32.ofInt a1)), some (.ref 179), none]) (st1 := [.int (Int32.ofInt 1)]) (H1 := mz_mk g (mz_tx x)) rfl (mm_rt rfl rfl (hQ 1 g (mz_tx x) hI (mz_xx_tx hx) (fun _ _ _ => rfl) (wdx_1 e_) (fun _ _ _ => rfl)))))))
  show mm_W d mmL_look 7 [some (.ref 0), some (.int (Int32.ofInt a1)), some (.ref 179), none] [.int (Int32.ofInt r), .int (Int32.ofInt 0), .ref 179] (mz_mk g1 x) Q
  refine mz_i2l rfl ⟨by omega, by omega⟩ ?_
  refine mz_las rfl ?_
  refine mz_gt (tgt := 15) rfl rfl ?_
  exact mm_g 1 (pc1 := 16) (lo1 := [some (.ref 0), some (.int (Int32.ofInt a1)), some (.ref 179), none]) (st1 := [.int (Int32.ofInt 0)]) (H1 := mz_mk g1 (mz_lx x (Int64.ofInt r))) rfl (mm_rt rfl rfl (hQ 0 g1 (mz_lx x (Int64.ofInt r)) hI1 (mz_xx_lx hx rfl _) (fun k j hk => hf1 k j (nw_X11_look_137 hx k j hk)) (wdx_0 e_) (fun a b z => hf1 a b (fun y => z (nz_X11_look_na hx _ _ y)))))
theorem w_L_seasons {d : Nat} (hd : 15 ≤ d) {x : mm_X} (hx : mk_x x) {g : mz_G} (hI : mz_inv g) {a1 : Int} (l_a1 : -2147483648 ≤ a1) (u_a1 : a1 ≤ 2147483647) {a2 : Int} (l_a2 : -2147483648 ≤ a2) (u_a2 : a2 ≤ 2147483647) {a3 : Int} (l_a3 : -2147483648 ≤ a3) (u_a3 : a3 ≤ 2147483647) {Q : (Option Value ⊕ Nat) → mm_H → Prop} (hQ : ∀ (r : Int) (g1 : mz_G) (x1 : mm_X), mz_inv g1 → mz_xx x x1 → (∀ k j : Nat, 137 ≤ k → g1 k j = g k j) → wd x (zF_X11_seasons x a1 a2 a3 g) r g1 x1 → (∀ a b : Nat, ¬ na_ x a b → g1 a b = g a b) → Q (.inl (some (.int (Int32.ofInt r)))) (mz_mk g1 x1)) : mm_C d 323 [.ref 0, .int (Int32.ofInt a1), .int (Int32.ofInt a2), .int (Int32.ofInt a3), .ref 179] (mz_mk g x) Q := by
  have kx := kn_x hx
  refine ⟨mmL_seasons, [some (.ref 0), some (.int (Int32.ofInt a1)), some (.int (Int32.ofInt a2)), some (.int (Int32.ofInt a3)), some (.ref 179), none], rfl, rfl, ?_⟩
  refine mm_g 6 (pc1 := 7) (lo1 := [some (.ref 0), some (.int (Int32.ofInt a1)), some (.int (Int32.ofInt a2)), some (.int (Int32.ofInt a3)), some (.ref 179), none]) (st1 := [.int (Int32.ofInt a3), .int (Int32.ofInt a2), .int (Int32.ofInt a1), .ref 0, .int (Int32.ofInt 0), .ref 179]) (H1 := mz_mk g x) rfl ?_
  refine mz_cvh rfl mt_13_82 rfl rfl (Nat.le_of_ble_eq_true rfl) (by omega) rfl nh_X11_seasons (f_X11_seasons (by omega) hx hI l_a1 u_a1 l_a2 u_a2 l_a3 u_a3 (fun r g1 hI1 hf1 l_r u_r e_ => ?_) (fun e_ => (mm_HQ_w (E := 0) (hp := 15) (k := 5) (lo2 := [some (.ref 0), some (.int (Int32.ofInt a1)), some (.int (Int32.ofInt a2)), some (.int (Int32.ofInt a3)), some (.ref 179), none]) rfl rfl rfl (Nat.le_of_ble_eq_true rfl) rfl (mm_g 1 (pc1 := 18) (lo1 := [some (.ref 0), some (.int (Int32.ofInt a1)), some (.int (Int32.ofInt a2)), some (.int (Int32.ofInt a3)), some (.ref 179), none]) (st1 := [.int (Int32.ofInt 1)]) (H1 := mz_mk g (mz_tx x)) rfl (mm_rt rfl rfl (hQ 1 g (mz_tx x) hI (mz_xx_tx hx) (fun _ _ _ => rfl) (wdx_1 e_) (fun _ _ _ => rfl)))))) (fun e_ => (mm_HQ_w (E := 1) (hp := 19) (k := 5) (lo2 := [some (.ref 0), some (.int (Int32.ofInt a1)), some (.int (Int32.ofInt a2)), some (.int (Int32.ofInt a3)), some (.ref 179), none]) rfl rfl rfl (Nat.le_of_ble_eq_true rfl) rfl (mm_g 1 (pc1 := 22) (lo1 := [some (.ref 0), some (.int (Int32.ofInt a1)), some (.int (Int32.ofInt a2)), some (.int (Int32.ofInt a3)), some (.ref 179), none]) (st1 := [.int (Int32.ofInt 2)]) (H1 := mz_mk g (mz_tx x)) rfl (mm_rt rfl rfl (hQ 2 g (mz_tx x) hI (mz_xx_tx hx) (fun _ _ _ => rfl) (wdx_2 e_) (fun _ _ _ => rfl)))))))
  show mm_W d mmL_seasons 10 [some (.ref 0), some (.int (Int32.ofInt a1)), some (.int (Int32.ofInt a2)), some (.int (Int32.ofInt a3)), some (.ref 179), none] [.int (Int32.ofInt r), .int (Int32.ofInt 0), .ref 179] (mz_mk g1 x) Q
  refine mz_i2l rfl ⟨by omega, by omega⟩ ?_
  refine mz_las rfl ?_
  refine mz_gt (tgt := 23) rfl rfl ?_
  exact mm_g 1 (pc1 := 24) (lo1 := [some (.ref 0), some (.int (Int32.ofInt a1)), some (.int (Int32.ofInt a2)), some (.int (Int32.ofInt a3)), some (.ref 179), none]) (st1 := [.int (Int32.ofInt 0)]) (H1 := mz_mk g1 (mz_lx x (Int64.ofInt r))) rfl (mm_rt rfl rfl (hQ 0 g1 (mz_lx x (Int64.ofInt r)) hI1 (mz_xx_lx hx rfl _) (fun k j hk => hf1 k j (nw_X11_seasons_137 hx k j hk)) (wdx_0 e_) (fun a b z => hf1 a b (fun y => z (nz_X11_seasons_na hx _ _ y)))))
theorem w_L_game {d : Nat} (hd : 18 ≤ d) {x : mm_X} (hx : mk_x x) {g : mz_G} (hI : mz_inv g) {a1 : Int} (l_a1 : -2147483648 ≤ a1) (u_a1 : a1 ≤ 2147483647) {a2 : Int} (l_a2 : -2147483648 ≤ a2) (u_a2 : a2 ≤ 2147483647) {a3 : Int} (l_a3 : -2147483648 ≤ a3) (u_a3 : a3 ≤ 2147483647) {Q : (Option Value ⊕ Nat) → mm_H → Prop} (hQ : ∀ (r : Int) (g1 : mz_G) (x1 : mm_X), mz_inv g1 → mz_xx x x1 → (∀ k j : Nat, 137 ≤ k → g1 k j = g k j) → wd x (zF_X11_game x a1 a2 a3 g) r g1 x1 → (∀ a b : Nat, ¬ na_ x a b → g1 a b = g a b) → Q (.inl (some (.int (Int32.ofInt r)))) (mz_mk g1 x1)) : mm_C d 324 [.ref 0, .int (Int32.ofInt a1), .int (Int32.ofInt a2), .int (Int32.ofInt a3), .ref 179] (mz_mk g x) Q := by
  have kx := kn_x hx
  refine ⟨mmL_game, [some (.ref 0), some (.int (Int32.ofInt a1)), some (.int (Int32.ofInt a2)), some (.int (Int32.ofInt a3)), some (.ref 179), none], rfl, rfl, ?_⟩
  refine mm_g 6 (pc1 := 7) (lo1 := [some (.ref 0), some (.int (Int32.ofInt a1)), some (.int (Int32.ofInt a2)), some (.int (Int32.ofInt a3)), some (.ref 179), none]) (st1 := [.int (Int32.ofInt a3), .int (Int32.ofInt a2), .int (Int32.ofInt a1), .ref 0, .int (Int32.ofInt 0), .ref 179]) (H1 := mz_mk g x) rfl ?_
  refine mz_cvh rfl mt_13_85 rfl rfl (Nat.le_of_ble_eq_true rfl) (by omega) rfl nh_X11_game (f_X11_game (by omega) hx hI l_a1 u_a1 l_a2 u_a2 l_a3 u_a3 (fun r g1 hI1 hf1 l_r u_r e_ => ?_) (fun e_ => (mm_HQ_w (E := 0) (hp := 15) (k := 5) (lo2 := [some (.ref 0), some (.int (Int32.ofInt a1)), some (.int (Int32.ofInt a2)), some (.int (Int32.ofInt a3)), some (.ref 179), none]) rfl rfl rfl (Nat.le_of_ble_eq_true rfl) rfl (mm_g 1 (pc1 := 18) (lo1 := [some (.ref 0), some (.int (Int32.ofInt a1)), some (.int (Int32.ofInt a2)), some (.int (Int32.ofInt a3)), some (.ref 179), none]) (st1 := [.int (Int32.ofInt 1)]) (H1 := mz_mk g (mz_tx x)) rfl (mm_rt rfl rfl (hQ 1 g (mz_tx x) hI (mz_xx_tx hx) (fun _ _ _ => rfl) (wdx_1 e_) (fun _ _ _ => rfl)))))) (fun e_ => (mm_HQ_w (E := 1) (hp := 19) (k := 5) (lo2 := [some (.ref 0), some (.int (Int32.ofInt a1)), some (.int (Int32.ofInt a2)), some (.int (Int32.ofInt a3)), some (.ref 179), none]) rfl rfl rfl (Nat.le_of_ble_eq_true rfl) rfl (mm_g 1 (pc1 := 22) (lo1 := [some (.ref 0), some (.int (Int32.ofInt a1)), some (.int (Int32.ofInt a2)), some (.int (Int32.ofInt a3)), some (.ref 179), none]) (st1 := [.int (Int32.ofInt 2)]) (H1 := mz_mk g (mz_tx x)) rfl (mm_rt rfl rfl (hQ 2 g (mz_tx x) hI (mz_xx_tx hx) (fun _ _ _ => rfl) (wdx_2 e_) (fun _ _ _ => rfl)))))))
  show mm_W d mmL_game 10 [some (.ref 0), some (.int (Int32.ofInt a1)), some (.int (Int32.ofInt a2)), some (.int (Int32.ofInt a3)), some (.ref 179), none] [.int (Int32.ofInt r), .int (Int32.ofInt 0), .ref 179] (mz_mk g1 x) Q
  refine mz_i2l rfl ⟨by omega, by omega⟩ ?_
  refine mz_las rfl ?_
  refine mz_gt (tgt := 23) rfl rfl ?_
  exact mm_g 1 (pc1 := 24) (lo1 := [some (.ref 0), some (.int (Int32.ofInt a1)), some (.int (Int32.ofInt a2)), some (.int (Int32.ofInt a3)), some (.ref 179), none]) (st1 := [.int (Int32.ofInt 0)]) (H1 := mz_mk g1 (mz_lx x (Int64.ofInt r))) rfl (mm_rt rfl rfl (hQ 0 g1 (mz_lx x (Int64.ofInt r)) hI1 (mz_xx_lx hx rfl _) (fun k j hk => hf1 k j (nw_X11_game_137 hx k j hk)) (wdx_0 e_) (fun a b z => hf1 a b (fun y => z (nz_X11_game_na hx _ _ y)))))
theorem w_L_years {d : Nat} (hd : 16 ≤ d) {x : mm_X} (hx : mk_x x) {g : mz_G} (hI : mz_inv g) {a1 : Int} (l_a1 : -2147483648 ≤ a1) (u_a1 : a1 ≤ 2147483647) {a2 : Int} (l_a2 : -2147483648 ≤ a2) (u_a2 : a2 ≤ 2147483647) {a3 : Int} (l_a3 : -2147483648 ≤ a3) (u_a3 : a3 ≤ 2147483647) {Q : (Option Value ⊕ Nat) → mm_H → Prop} (hQ : ∀ (r : Int) (g1 : mz_G) (x1 : mm_X), mz_inv g1 → mz_xx x x1 → (∀ k j : Nat, 137 ≤ k → g1 k j = g k j) → wd x (zF_X11_years x a1 a2 a3 g) r g1 x1 → (∀ a b : Nat, ¬ na_ x a b → g1 a b = g a b) → Q (.inl (some (.int (Int32.ofInt r)))) (mz_mk g1 x1)) : mm_C d 325 [.ref 0, .int (Int32.ofInt a1), .int (Int32.ofInt a2), .int (Int32.ofInt a3), .ref 179] (mz_mk g x) Q := by
  have kx := kn_x hx
  refine ⟨mmL_years, [some (.ref 0), some (.int (Int32.ofInt a1)), some (.int (Int32.ofInt a2)), some (.int (Int32.ofInt a3)), some (.ref 179), none], rfl, rfl, ?_⟩
  refine mm_g 6 (pc1 := 7) (lo1 := [some (.ref 0), some (.int (Int32.ofInt a1)), some (.int (Int32.ofInt a2)), some (.int (Int32.ofInt a3)), some (.ref 179), none]) (st1 := [.int (Int32.ofInt a3), .int (Int32.ofInt a2), .int (Int32.ofInt a1), .ref 0, .int (Int32.ofInt 0), .ref 179]) (H1 := mz_mk g x) rfl ?_
  refine mz_cvh rfl mt_13_88 rfl rfl (Nat.le_of_ble_eq_true rfl) (by omega) rfl nh_X11_years (f_X11_years (by omega) hx hI l_a1 u_a1 l_a2 u_a2 l_a3 u_a3 (fun r g1 hI1 hf1 l_r u_r e_ => ?_) (fun e_ => (mm_HQ_w (E := 0) (hp := 15) (k := 5) (lo2 := [some (.ref 0), some (.int (Int32.ofInt a1)), some (.int (Int32.ofInt a2)), some (.int (Int32.ofInt a3)), some (.ref 179), none]) rfl rfl rfl (Nat.le_of_ble_eq_true rfl) rfl (mm_g 1 (pc1 := 18) (lo1 := [some (.ref 0), some (.int (Int32.ofInt a1)), some (.int (Int32.ofInt a2)), some (.int (Int32.ofInt a3)), some (.ref 179), none]) (st1 := [.int (Int32.ofInt 1)]) (H1 := mz_mk g (mz_tx x)) rfl (mm_rt rfl rfl (hQ 1 g (mz_tx x) hI (mz_xx_tx hx) (fun _ _ _ => rfl) (wdx_1 e_) (fun _ _ _ => rfl)))))) (fun e_ => (mm_HQ_w (E := 1) (hp := 19) (k := 5) (lo2 := [some (.ref 0), some (.int (Int32.ofInt a1)), some (.int (Int32.ofInt a2)), some (.int (Int32.ofInt a3)), some (.ref 179), none]) rfl rfl rfl (Nat.le_of_ble_eq_true rfl) rfl (mm_g 1 (pc1 := 22) (lo1 := [some (.ref 0), some (.int (Int32.ofInt a1)), some (.int (Int32.ofInt a2)), some (.int (Int32.ofInt a3)), some (.ref 179), none]) (st1 := [.int (Int32.ofInt 2)]) (H1 := mz_mk g (mz_tx x)) rfl (mm_rt rfl rfl (hQ 2 g (mz_tx x) hI (mz_xx_tx hx) (fun _ _ _ => rfl) (wdx_2 e_) (fun _ _ _ => rfl)))))))
  show mm_W d mmL_years 10 [some (.ref 0), some (.int (Int32.ofInt a1)), some (.int (Int32.ofInt a2)), some (.int (Int32.ofInt a3)), some (.ref 179), none] [.int (Int32.ofInt r), .int (Int32.ofInt 0), .ref 179] (mz_mk g1 x) Q
  refine mz_i2l rfl ⟨by omega, by omega⟩ ?_
  refine mz_las rfl ?_
  refine mz_gt (tgt := 23) rfl rfl ?_
  exact mm_g 1 (pc1 := 24) (lo1 := [some (.ref 0), some (.int (Int32.ofInt a1)), some (.int (Int32.ofInt a2)), some (.int (Int32.ofInt a3)), some (.ref 179), none]) (st1 := [.int (Int32.ofInt 0)]) (H1 := mz_mk g1 (mz_lx x (Int64.ofInt r))) rfl (mm_rt rfl rfl (hQ 0 g1 (mz_lx x (Int64.ofInt r)) hI1 (mz_xx_lx hx rfl _) (fun k j hk => hf1 k j (nw_X11_years_137 hx k j hk)) (wdx_0 e_) (fun a b z => hf1 a b (fun y => z (nz_X11_years_na hx _ _ y)))))
