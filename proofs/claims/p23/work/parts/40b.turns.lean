/-! THE LAW'S TURNS (wip/p2/tools/gen60.py) -/
def mm_goL (C : List (Nat × Instr × Nat)) : Nat → mm_M → Nat → mm_St → Option mm_St
  | 0, _, _, q => some q
  | k + 1, M, d, q => match mm_look C q.1 with
    | some (i, len) => (match mm_step M d q.1 len q.2.1 q.2.2.1 q.2.2.2 i with
      | some (.inl q1) => mm_goL C k M d q1
      | _ => none)
    | none => none
theorem mm_goL_e {C : List (Nat × Instr × Nat)} {M : mm_M} {d : Nat} (hC : ∀ (pc : Nat) (v : Instr × Nat), mm_look C pc = some v → mm_look M.2.2.2.2 pc = some v) : ∀ (k : Nat) (q q1 : mm_St), mm_goL C k M d q = some q1 → mm_go k M d q = some q1
  | 0, q, q1, h => h
  | k + 1, q, q1, h => by
    simp only [mm_goL] at h
    simp only [mm_go]
    split at h
    · rename_i i len hl
      rw [hC _ _ hl]
      dsimp only
      split at h
      · rename_i q2 hs
        rw [hs]
        exact mm_goL_e hC k q2 q1 h
      · cases h
    · cases h
theorem mm_g2 {C : List (Nat × Instr × Nat)} {M : mm_M} {d : Nat} {pc : Nat} {lo : List (Option Value)} {st : List Value} {H : mm_H} {Q : (Option Value ⊕ Nat) → mm_H → Prop} (hC : ∀ (pc : Nat) (v : Instr × Nat), mm_look C pc = some v → mm_look M.2.2.2.2 pc = some v) (k : Nat) {pc1 : Nat} {lo1 : List (Option Value)} {st1 : List Value} {H1 : mm_H} (h : mm_goL C k M d (pc, lo, st, H) = some (pc1, lo1, st1, H1)) (kk : mm_W d M pc1 lo1 st1 H1 Q) : mm_W d M pc lo st H Q := mm_g k (mm_goL_e hC k _ _ h) kk
theorem sg_skip {R : List (Nat × Instr × Nat)} {k pc : Nat} (h : k ≤ pc) : ∀ P : List (Nat × Instr × Nat), P.all (fun e => Nat.blt e.1 k) = true → mm_look (P ++ R) pc = mm_look R pc
  | [], _ => rfl
  | (a, v) :: P, e => by
    simp only [List.all_cons, Bool.and_eq_true] at e
    have ne : Nat.beq a pc = false := by
      have l := Nat.le_of_ble_eq_true e.1
      refine Bool.eq_false_iff.mpr fun w => ?_
      have := Nat.eq_of_beq_eq_true w
      omega
    show (match Nat.beq a pc with | true => some v | false => mm_look (P ++ R) pc) = _
    rw [ne]
    exact sg_skip h P e.2
theorem sg_app {R : List (Nat × Instr × Nat)} {pc : Nat} {v : Instr × Nat} : ∀ C : List (Nat × Instr × Nat), mm_look C pc = some v → mm_look (C ++ R) pc = some v
  | [], e => by cases e
  | (a, w) :: C, e => by
    show (match Nat.beq a pc with | true => some w | false => mm_look (C ++ R) pc) = _
    change (match Nat.beq a pc with | true => some w | false => mm_look C pc) = _ at e
    cases z : Nat.beq a pc with
    | true => rw [z] at e; exact e
    | false => rw [z] at e; exact sg_app C e
theorem sg_in {D P C R : List (Nat × Instr × Nat)} {k : Nat} (hD : D = P ++ (C ++ R)) (hP : P.all (fun e => Nat.blt e.1 k) = true) (hC : C.all (fun e => Nat.ble k e.1) = true) : ∀ (pc : Nat) (v : Instr × Nat), mm_look C pc = some v → mm_look D pc = some v := fun pc v h => by
  have m := mm_look_mem _ _ _ h
  have l := Nat.le_of_ble_eq_true (List.all_eq_true.mp hC _ m)
  rw [hD, sg_skip l P hP]
  exact sg_app C h
/-- the law in pieces -/
def mmS_a : List (Nat × Instr × Nat) := [(0, .new 8, 3), (3, .dup, 1), (4, .invokespecial 91, 3), (7, .astore_n 1, 1), (8, .new 92, 3), (11, .dup, 1), (12, .invokespecial 94, 3), (15, .astore_n 2, 1), (16, .iconst 1, 1), (17, .newarray .long, 2), (19, .astore_n 3, 1), (20, .iconst 0, 1), (21, .istore 4, 2), (23, .iload 4, 2), (25, .aload_n 0, 1), (26, .arraylength, 1), (27, .bipush 6, 2), (29, .isub, 1), (30, .if_icmp .gt 1364, 3), (33, .aload_n 0, 1), (34, .iload 4, 2), (36, .iaload, 1), (37, .bipush 63, 2), (39, .iand, 1), (40, .tableswitch 1348 0 32 #[148, 221, 249, 262, 290, 330, 370, 410, 435, 475, 515, 543, 595, 608, 660, 712, 752, 780, 820, 860, 912, 940, 996, 1036, 1049, 1101, 1129, 1157, 1168, 1220, 1272, 1324, 1335], 148)]
def mmS_0 : List (Nat × Instr × Nat) := [(188, .aload_n 1, 1), (189, .aload_n 0, 1), (190, .iload 4, 2), (192, .iconst 1, 1), (193, .iadd, 1), (194, .iaload, 1), (195, .aload_n 0, 1), (196, .iload 4, 2), (198, .iconst 2, 1), (199, .iadd, 1), (200, .iaload, 1), (201, .aload_n 0, 1), (202, .iload 4, 2), (204, .iconst 3, 1), (205, .iadd, 1), (206, .iaload, 1), (207, .aload_n 0, 1), (208, .iload 4, 2), (210, .iconst 4, 1), (211, .iadd, 1), (212, .iaload, 1), (213, .aload_n 0, 1), (214, .iload 4, 2), (216, .iconst 5, 1), (217, .iadd, 1), (218, .iaload, 1), (219, .invokevirtual 95, 3), (222, .pop, 1), (223, .aload_n 2, 1), (224, .aload_n 0, 1), (225, .iload 4, 2), (227, .iconst 1, 1), (228, .iadd, 1), (229, .iaload, 1), (230, .aload_n 0, 1), (231, .iload 4, 2), (233, .iconst 2, 1), (234, .iadd, 1), (235, .iaload, 1), (236, .aload_n 0, 1), (237, .iload 4, 2), (239, .iconst 3, 1), (240, .iadd, 1), (241, .iaload, 1), (242, .aload_n 0, 1), (243, .iload 4, 2), (245, .iconst 4, 1), (246, .iadd, 1), (247, .iaload, 1), (248, .aload_n 0, 1), (249, .iload 4, 2), (251, .iconst 5, 1), (252, .iadd, 1), (253, .iaload, 1), (254, .invokevirtual 99, 3), (257, .pop, 1), (258, .goto 1130, 3)]
def mmS_1 : List (Nat × Instr × Nat) := [(261, .aload_n 1, 1), (262, .aload_n 0, 1), (263, .iload 4, 2), (265, .iconst 1, 1), (266, .iadd, 1), (267, .iaload, 1), (268, .aload_n 3, 1), (269, .invokestatic 100, 3), (272, .istore 5, 2), (274, .aload_n 2, 1), (275, .aload_n 0, 1), (276, .iload 4, 2), (278, .iconst 1, 1), (279, .iadd, 1), (280, .iaload, 1), (281, .invokevirtual 105, 3), (284, .istore 6, 2), (286, .goto 1102, 3)]
def mmS_2 : List (Nat × Instr × Nat) := [(289, .aload_n 1, 1), (290, .invokevirtual 106, 3), (293, .pop, 1), (294, .aload_n 2, 1), (295, .invokevirtual 110, 3), (298, .pop, 1), (299, .goto 1089, 3)]
def mmS_3 : List (Nat × Instr × Nat) := [(302, .aload_n 1, 1), (303, .aload_n 0, 1), (304, .iload 4, 2), (306, .iconst 1, 1), (307, .iadd, 1), (308, .iaload, 1), (309, .aload_n 3, 1), (310, .invokestatic 111, 3), (313, .istore 5, 2), (315, .aload_n 2, 1), (316, .aload_n 0, 1), (317, .iload 4, 2), (319, .iconst 1, 1), (320, .iadd, 1), (321, .iaload, 1), (322, .invokevirtual 113, 3), (325, .istore 6, 2), (327, .goto 1061, 3)]
def mmS_4 : List (Nat × Instr × Nat) := [(330, .aload_n 1, 1), (331, .aload_n 0, 1), (332, .iload 4, 2), (334, .iconst 1, 1), (335, .iadd, 1), (336, .iaload, 1), (337, .aload_n 0, 1), (338, .iload 4, 2), (340, .iconst 2, 1), (341, .iadd, 1), (342, .iaload, 1), (343, .aload_n 3, 1), (344, .invokestatic 114, 3), (347, .istore 5, 2), (349, .aload_n 2, 1), (350, .aload_n 0, 1), (351, .iload 4, 2), (353, .iconst 1, 1), (354, .iadd, 1), (355, .iaload, 1), (356, .aload_n 0, 1), (357, .iload 4, 2), (359, .iconst 2, 1), (360, .iadd, 1), (361, .iaload, 1), (362, .invokevirtual 117, 3), (365, .istore 6, 2), (367, .goto 1021, 3)]
def mmS_5 : List (Nat × Instr × Nat) := [(370, .aload_n 1, 1), (371, .aload_n 0, 1), (372, .iload 4, 2), (374, .iconst 1, 1), (375, .iadd, 1), (376, .iaload, 1), (377, .aload_n 0, 1), (378, .iload 4, 2), (380, .iconst 2, 1), (381, .iadd, 1), (382, .iaload, 1), (383, .aload_n 3, 1), (384, .invokestatic 118, 3), (387, .istore 5, 2), (389, .aload_n 2, 1), (390, .aload_n 0, 1), (391, .iload 4, 2), (393, .iconst 1, 1), (394, .iadd, 1), (395, .iaload, 1), (396, .aload_n 0, 1), (397, .iload 4, 2), (399, .iconst 2, 1), (400, .iadd, 1), (401, .iaload, 1), (402, .invokevirtual 120, 3), (405, .istore 6, 2), (407, .goto 981, 3)]
def mmS_6 : List (Nat × Instr × Nat) := [(410, .aload_n 1, 1), (411, .aload_n 0, 1), (412, .iload 4, 2), (414, .iconst 1, 1), (415, .iadd, 1), (416, .iaload, 1), (417, .aload_n 0, 1), (418, .iload 4, 2), (420, .iconst 2, 1), (421, .iadd, 1), (422, .iaload, 1), (423, .aload_n 3, 1), (424, .invokestatic 121, 3), (427, .istore 5, 2), (429, .aload_n 2, 1), (430, .aload_n 0, 1), (431, .iload 4, 2), (433, .iconst 1, 1), (434, .iadd, 1), (435, .iaload, 1), (436, .aload_n 0, 1), (437, .iload 4, 2), (439, .iconst 2, 1), (440, .iadd, 1), (441, .iaload, 1), (442, .invokevirtual 123, 3), (445, .istore 6, 2), (447, .goto 941, 3)]
def mmS_7 : List (Nat × Instr × Nat) := [(450, .aload_n 1, 1), (451, .aload_n 0, 1), (452, .iload 4, 2), (454, .iconst 1, 1), (455, .iadd, 1), (456, .iaload, 1), (457, .invokevirtual 124, 3), (460, .pop, 1), (461, .aload_n 2, 1), (462, .aload_n 0, 1), (463, .iload 4, 2), (465, .iconst 1, 1), (466, .iadd, 1), (467, .iaload, 1), (468, .invokevirtual 127, 3), (471, .pop, 1), (472, .goto 916, 3)]
def mmS_8 : List (Nat × Instr × Nat) := [(475, .aload_n 1, 1), (476, .aload_n 0, 1), (477, .iload 4, 2), (479, .iconst 1, 1), (480, .iadd, 1), (481, .iaload, 1), (482, .aload_n 0, 1), (483, .iload 4, 2), (485, .iconst 2, 1), (486, .iadd, 1), (487, .iaload, 1), (488, .aload_n 3, 1), (489, .invokestatic 128, 3), (492, .istore 5, 2), (494, .aload_n 2, 1), (495, .aload_n 0, 1), (496, .iload 4, 2), (498, .iconst 1, 1), (499, .iadd, 1), (500, .iaload, 1), (501, .aload_n 0, 1), (502, .iload 4, 2), (504, .iconst 2, 1), (505, .iadd, 1), (506, .iaload, 1), (507, .invokevirtual 130, 3), (510, .istore 6, 2), (512, .goto 876, 3)]
def mmS_9 : List (Nat × Instr × Nat) := [(515, .aload_n 1, 1), (516, .aload_n 0, 1), (517, .iload 4, 2), (519, .iconst 1, 1), (520, .iadd, 1), (521, .iaload, 1), (522, .aload_n 0, 1), (523, .iload 4, 2), (525, .iconst 2, 1), (526, .iadd, 1), (527, .iaload, 1), (528, .aload_n 3, 1), (529, .invokestatic 131, 3), (532, .istore 5, 2), (534, .aload_n 2, 1), (535, .aload_n 0, 1), (536, .iload 4, 2), (538, .iconst 1, 1), (539, .iadd, 1), (540, .iaload, 1), (541, .aload_n 0, 1), (542, .iload 4, 2), (544, .iconst 2, 1), (545, .iadd, 1), (546, .iaload, 1), (547, .invokevirtual 133, 3), (550, .istore 6, 2), (552, .goto 836, 3)]
def mmS_10 : List (Nat × Instr × Nat) := [(555, .aload_n 1, 1), (556, .aload_n 0, 1), (557, .iload 4, 2), (559, .iconst 1, 1), (560, .iadd, 1), (561, .iaload, 1), (562, .aload_n 3, 1), (563, .invokestatic 134, 3), (566, .istore 5, 2), (568, .aload_n 2, 1), (569, .aload_n 0, 1), (570, .iload 4, 2), (572, .iconst 1, 1), (573, .iadd, 1), (574, .iaload, 1), (575, .invokevirtual 136, 3), (578, .istore 6, 2), (580, .goto 808, 3)]
def mmS_11 : List (Nat × Instr × Nat) := [(583, .aload_n 1, 1), (584, .aload_n 0, 1), (585, .iload 4, 2), (587, .iconst 1, 1), (588, .iadd, 1), (589, .iaload, 1), (590, .aload_n 0, 1), (591, .iload 4, 2), (593, .iconst 2, 1), (594, .iadd, 1), (595, .iaload, 1), (596, .aload_n 0, 1), (597, .iload 4, 2), (599, .iconst 3, 1), (600, .iadd, 1), (601, .iaload, 1), (602, .aload_n 3, 1), (603, .invokestatic 137, 3), (606, .istore 5, 2), (608, .aload_n 2, 1), (609, .aload_n 0, 1), (610, .iload 4, 2), (612, .iconst 1, 1), (613, .iadd, 1), (614, .iaload, 1), (615, .aload_n 0, 1), (616, .iload 4, 2), (618, .iconst 2, 1), (619, .iadd, 1), (620, .iaload, 1), (621, .aload_n 0, 1), (622, .iload 4, 2), (624, .iconst 3, 1), (625, .iadd, 1), (626, .iaload, 1), (627, .invokevirtual 140, 3), (630, .istore 6, 2), (632, .goto 756, 3)]
def mmS_12 : List (Nat × Instr × Nat) := [(635, .aload_n 1, 1), (636, .invokevirtual 141, 3), (639, .pop, 1), (640, .aload_n 2, 1), (641, .invokevirtual 144, 3), (644, .pop, 1), (645, .goto 743, 3)]
def mmS_13 : List (Nat × Instr × Nat) := [(648, .aload_n 1, 1), (649, .aload_n 0, 1), (650, .iload 4, 2), (652, .iconst 1, 1), (653, .iadd, 1), (654, .iaload, 1), (655, .aload_n 0, 1), (656, .iload 4, 2), (658, .iconst 2, 1), (659, .iadd, 1), (660, .iaload, 1), (661, .aload_n 0, 1), (662, .iload 4, 2), (664, .iconst 3, 1), (665, .iadd, 1), (666, .iaload, 1), (667, .aload_n 3, 1), (668, .invokestatic 145, 3), (671, .istore 5, 2), (673, .aload_n 2, 1), (674, .aload_n 0, 1), (675, .iload 4, 2), (677, .iconst 1, 1), (678, .iadd, 1), (679, .iaload, 1), (680, .aload_n 0, 1), (681, .iload 4, 2), (683, .iconst 2, 1), (684, .iadd, 1), (685, .iaload, 1), (686, .aload_n 0, 1), (687, .iload 4, 2), (689, .iconst 3, 1), (690, .iadd, 1), (691, .iaload, 1), (692, .invokevirtual 147, 3), (695, .istore 6, 2), (697, .goto 691, 3)]
def mmS_14 : List (Nat × Instr × Nat) := [(700, .aload_n 1, 1), (701, .aload_n 0, 1), (702, .iload 4, 2), (704, .iconst 1, 1), (705, .iadd, 1), (706, .iaload, 1), (707, .aload_n 0, 1), (708, .iload 4, 2), (710, .iconst 2, 1), (711, .iadd, 1), (712, .iaload, 1), (713, .aload_n 0, 1), (714, .iload 4, 2), (716, .iconst 3, 1), (717, .iadd, 1), (718, .iaload, 1), (719, .aload_n 3, 1), (720, .invokestatic 148, 3), (723, .istore 5, 2), (725, .aload_n 2, 1), (726, .aload_n 0, 1), (727, .iload 4, 2), (729, .iconst 1, 1), (730, .iadd, 1), (731, .iaload, 1), (732, .aload_n 0, 1), (733, .iload 4, 2), (735, .iconst 2, 1), (736, .iadd, 1), (737, .iaload, 1), (738, .aload_n 0, 1), (739, .iload 4, 2), (741, .iconst 3, 1), (742, .iadd, 1), (743, .iaload, 1), (744, .invokevirtual 150, 3), (747, .istore 6, 2), (749, .goto 639, 3)]
def mmS_15 : List (Nat × Instr × Nat) := [(752, .aload_n 1, 1), (753, .aload_n 0, 1), (754, .iload 4, 2), (756, .iconst 1, 1), (757, .iadd, 1), (758, .iaload, 1), (759, .aload_n 0, 1), (760, .iload 4, 2), (762, .iconst 2, 1), (763, .iadd, 1), (764, .iaload, 1), (765, .aload_n 3, 1), (766, .invokestatic 151, 3), (769, .istore 5, 2), (771, .aload_n 2, 1), (772, .aload_n 0, 1), (773, .iload 4, 2), (775, .iconst 1, 1), (776, .iadd, 1), (777, .iaload, 1), (778, .aload_n 0, 1), (779, .iload 4, 2), (781, .iconst 2, 1), (782, .iadd, 1), (783, .iaload, 1), (784, .invokevirtual 153, 3), (787, .istore 6, 2), (789, .goto 599, 3)]
def mmS_16 : List (Nat × Instr × Nat) := [(792, .aload_n 1, 1), (793, .aload_n 0, 1), (794, .iload 4, 2), (796, .iconst 1, 1), (797, .iadd, 1), (798, .iaload, 1), (799, .aload_n 3, 1), (800, .invokestatic 154, 3), (803, .istore 5, 2), (805, .aload_n 2, 1), (806, .aload_n 0, 1), (807, .iload 4, 2), (809, .iconst 1, 1), (810, .iadd, 1), (811, .iaload, 1), (812, .invokevirtual 156, 3), (815, .istore 6, 2), (817, .goto 571, 3)]
def mmS_17 : List (Nat × Instr × Nat) := [(820, .aload_n 1, 1), (821, .aload_n 0, 1), (822, .iload 4, 2), (824, .iconst 1, 1), (825, .iadd, 1), (826, .iaload, 1), (827, .aload_n 0, 1), (828, .iload 4, 2), (830, .iconst 2, 1), (831, .iadd, 1), (832, .iaload, 1), (833, .aload_n 3, 1), (834, .invokestatic 157, 3), (837, .istore 5, 2), (839, .aload_n 2, 1), (840, .aload_n 0, 1), (841, .iload 4, 2), (843, .iconst 1, 1), (844, .iadd, 1), (845, .iaload, 1), (846, .aload_n 0, 1), (847, .iload 4, 2), (849, .iconst 2, 1), (850, .iadd, 1), (851, .iaload, 1), (852, .invokevirtual 159, 3), (855, .istore 6, 2), (857, .goto 531, 3)]
def mmS_18 : List (Nat × Instr × Nat) := [(860, .aload_n 1, 1), (861, .aload_n 0, 1), (862, .iload 4, 2), (864, .iconst 1, 1), (865, .iadd, 1), (866, .iaload, 1), (867, .aload_n 0, 1), (868, .iload 4, 2), (870, .iconst 2, 1), (871, .iadd, 1), (872, .iaload, 1), (873, .aload_n 3, 1), (874, .invokestatic 160, 3), (877, .istore 5, 2), (879, .aload_n 2, 1), (880, .aload_n 0, 1), (881, .iload 4, 2), (883, .iconst 1, 1), (884, .iadd, 1), (885, .iaload, 1), (886, .aload_n 0, 1), (887, .iload 4, 2), (889, .iconst 2, 1), (890, .iadd, 1), (891, .iaload, 1), (892, .invokevirtual 162, 3), (895, .istore 6, 2), (897, .goto 491, 3)]
def mmS_19 : List (Nat × Instr × Nat) := [(900, .aload_n 1, 1), (901, .aload_n 0, 1), (902, .iload 4, 2), (904, .iconst 1, 1), (905, .iadd, 1), (906, .iaload, 1), (907, .aload_n 0, 1), (908, .iload 4, 2), (910, .iconst 2, 1), (911, .iadd, 1), (912, .iaload, 1), (913, .aload_n 0, 1), (914, .iload 4, 2), (916, .iconst 3, 1), (917, .iadd, 1), (918, .iaload, 1), (919, .aload_n 3, 1), (920, .invokestatic 163, 3), (923, .istore 5, 2), (925, .aload_n 2, 1), (926, .aload_n 0, 1), (927, .iload 4, 2), (929, .iconst 1, 1), (930, .iadd, 1), (931, .iaload, 1), (932, .aload_n 0, 1), (933, .iload 4, 2), (935, .iconst 2, 1), (936, .iadd, 1), (937, .iaload, 1), (938, .aload_n 0, 1), (939, .iload 4, 2), (941, .iconst 3, 1), (942, .iadd, 1), (943, .iaload, 1), (944, .invokevirtual 165, 3), (947, .istore 6, 2), (949, .goto 439, 3)]
def mmS_20 : List (Nat × Instr × Nat) := [(952, .aload_n 1, 1), (953, .aload_n 0, 1), (954, .iload 4, 2), (956, .iconst 1, 1), (957, .iadd, 1), (958, .iaload, 1), (959, .aload_n 3, 1), (960, .invokestatic 166, 3), (963, .istore 5, 2), (965, .aload_n 2, 1), (966, .aload_n 0, 1), (967, .iload 4, 2), (969, .iconst 1, 1), (970, .iadd, 1), (971, .iaload, 1), (972, .invokevirtual 168, 3), (975, .istore 6, 2), (977, .goto 411, 3)]
def mmS_21 : List (Nat × Instr × Nat) := [(980, .aload_n 1, 1), (981, .aload_n 0, 1), (982, .iload 4, 2), (984, .iconst 1, 1), (985, .iadd, 1), (986, .iaload, 1), (987, .aload_n 3, 1), (988, .invokestatic 169, 3), (991, .istore 5, 2), (993, .aload_n 2, 1), (994, .aload_n 0, 1), (995, .iload 4, 2), (997, .iconst 1, 1), (998, .iadd, 1), (999, .iaload, 1), (1000, .invokevirtual 171, 3), (1003, .istore 6, 2), (1005, .aload_n 2, 1), (1006, .invokevirtual 172, 3), (1009, .iload 5, 2), (1011, .if_icmp .eq 5, 3), (1014, .iconst 0, 1), (1015, .ireturn, 1), (1016, .iload 5, 2), (1018, .ifCond .ne 15, 3), (1021, .aload_n 3, 1), (1022, .iconst 0, 1), (1023, .laload, 1), (1024, .iload 6, 2), (1026, .i2l, 1), (1027, .lcmp, 1), (1028, .ifCond .eq 5, 3), (1031, .iconst 0, 1), (1032, .ireturn, 1), (1033, .goto 355, 3)]
def mmS_22 : List (Nat × Instr × Nat) := [(1036, .aload_n 1, 1), (1037, .aload_n 0, 1), (1038, .iload 4, 2), (1040, .iconst 1, 1), (1041, .iadd, 1), (1042, .iaload, 1), (1043, .aload_n 0, 1), (1044, .iload 4, 2), (1046, .iconst 2, 1), (1047, .iadd, 1), (1048, .iaload, 1), (1049, .aload_n 3, 1), (1050, .invokestatic 175, 3), (1053, .istore 5, 2), (1055, .aload_n 2, 1), (1056, .aload_n 0, 1), (1057, .iload 4, 2), (1059, .iconst 1, 1), (1060, .iadd, 1), (1061, .iaload, 1), (1062, .aload_n 0, 1), (1063, .iload 4, 2), (1065, .iconst 2, 1), (1066, .iadd, 1), (1067, .iaload, 1), (1068, .invokevirtual 177, 3), (1071, .istore 6, 2), (1073, .goto 315, 3)]
def mmS_23 : List (Nat × Instr × Nat) := [(1076, .aload_n 1, 1), (1077, .invokevirtual 178, 3), (1080, .pop, 1), (1081, .aload_n 2, 1), (1082, .invokevirtual 181, 3), (1085, .pop, 1), (1086, .goto 302, 3)]
def mmS_24 : List (Nat × Instr × Nat) := [(1089, .aload_n 1, 1), (1090, .aload_n 0, 1), (1091, .iload 4, 2), (1093, .iconst 1, 1), (1094, .iadd, 1), (1095, .iaload, 1), (1096, .aload_n 0, 1), (1097, .iload 4, 2), (1099, .iconst 2, 1), (1100, .iadd, 1), (1101, .iaload, 1), (1102, .aload_n 0, 1), (1103, .iload 4, 2), (1105, .iconst 3, 1), (1106, .iadd, 1), (1107, .iaload, 1), (1108, .aload_n 3, 1), (1109, .invokestatic 182, 3), (1112, .istore 5, 2), (1114, .aload_n 2, 1), (1115, .aload_n 0, 1), (1116, .iload 4, 2), (1118, .iconst 1, 1), (1119, .iadd, 1), (1120, .iaload, 1), (1121, .aload_n 0, 1), (1122, .iload 4, 2), (1124, .iconst 2, 1), (1125, .iadd, 1), (1126, .iaload, 1), (1127, .aload_n 0, 1), (1128, .iload 4, 2), (1130, .iconst 3, 1), (1131, .iadd, 1), (1132, .iaload, 1), (1133, .invokevirtual 184, 3), (1136, .istore 6, 2), (1138, .goto 250, 3)]
def mmS_25 : List (Nat × Instr × Nat) := [(1141, .aload_n 1, 1), (1142, .aload_n 0, 1), (1143, .iload 4, 2), (1145, .iconst 1, 1), (1146, .iadd, 1), (1147, .iaload, 1), (1148, .aload_n 3, 1), (1149, .invokestatic 185, 3), (1152, .istore 5, 2), (1154, .aload_n 2, 1), (1155, .aload_n 0, 1), (1156, .iload 4, 2), (1158, .iconst 1, 1), (1159, .iadd, 1), (1160, .iaload, 1), (1161, .invokevirtual 187, 3), (1164, .istore 6, 2), (1166, .goto 222, 3)]
def mmS_26 : List (Nat × Instr × Nat) := [(1169, .aload_n 1, 1), (1170, .aload_n 0, 1), (1171, .iload 4, 2), (1173, .iconst 1, 1), (1174, .iadd, 1), (1175, .iaload, 1), (1176, .aload_n 3, 1), (1177, .invokestatic 188, 3), (1180, .istore 5, 2), (1182, .aload_n 2, 1), (1183, .aload_n 0, 1), (1184, .iload 4, 2), (1186, .iconst 1, 1), (1187, .iadd, 1), (1188, .iaload, 1), (1189, .invokevirtual 190, 3), (1192, .istore 6, 2), (1194, .goto 194, 3)]
def mmS_27 : List (Nat × Instr × Nat) := [(1197, .aload_n 1, 1), (1198, .invokevirtual 191, 3), (1201, .aload_n 2, 1), (1202, .invokevirtual 194, 3), (1205, .goto 183, 3)]
def mmS_28 : List (Nat × Instr × Nat) := [(1208, .aload_n 1, 1), (1209, .aload_n 0, 1), (1210, .iload 4, 2), (1212, .iconst 1, 1), (1213, .iadd, 1), (1214, .iaload, 1), (1215, .aload_n 0, 1), (1216, .iload 4, 2), (1218, .iconst 2, 1), (1219, .iadd, 1), (1220, .iaload, 1), (1221, .aload_n 0, 1), (1222, .iload 4, 2), (1224, .iconst 3, 1), (1225, .iadd, 1), (1226, .iaload, 1), (1227, .aload_n 3, 1), (1228, .invokestatic 195, 3), (1231, .istore 5, 2), (1233, .aload_n 2, 1), (1234, .aload_n 0, 1), (1235, .iload 4, 2), (1237, .iconst 1, 1), (1238, .iadd, 1), (1239, .iaload, 1), (1240, .aload_n 0, 1), (1241, .iload 4, 2), (1243, .iconst 2, 1), (1244, .iadd, 1), (1245, .iaload, 1), (1246, .aload_n 0, 1), (1247, .iload 4, 2), (1249, .iconst 3, 1), (1250, .iadd, 1), (1251, .iaload, 1), (1252, .invokevirtual 197, 3), (1255, .istore 6, 2), (1257, .goto 131, 3)]
def mmS_29 : List (Nat × Instr × Nat) := [(1260, .aload_n 1, 1), (1261, .aload_n 0, 1), (1262, .iload 4, 2), (1264, .iconst 1, 1), (1265, .iadd, 1), (1266, .iaload, 1), (1267, .aload_n 0, 1), (1268, .iload 4, 2), (1270, .iconst 2, 1), (1271, .iadd, 1), (1272, .iaload, 1), (1273, .aload_n 0, 1), (1274, .iload 4, 2), (1276, .iconst 3, 1), (1277, .iadd, 1), (1278, .iaload, 1), (1279, .aload_n 3, 1), (1280, .invokestatic 198, 3), (1283, .istore 5, 2), (1285, .aload_n 2, 1), (1286, .aload_n 0, 1), (1287, .iload 4, 2), (1289, .iconst 1, 1), (1290, .iadd, 1), (1291, .iaload, 1), (1292, .aload_n 0, 1), (1293, .iload 4, 2), (1295, .iconst 2, 1), (1296, .iadd, 1), (1297, .iaload, 1), (1298, .aload_n 0, 1), (1299, .iload 4, 2), (1301, .iconst 3, 1), (1302, .iadd, 1), (1303, .iaload, 1), (1304, .invokevirtual 200, 3), (1307, .istore 6, 2), (1309, .goto 79, 3)]
def mmS_30 : List (Nat × Instr × Nat) := [(1312, .aload_n 1, 1), (1313, .aload_n 0, 1), (1314, .iload 4, 2), (1316, .iconst 1, 1), (1317, .iadd, 1), (1318, .iaload, 1), (1319, .aload_n 0, 1), (1320, .iload 4, 2), (1322, .iconst 2, 1), (1323, .iadd, 1), (1324, .iaload, 1), (1325, .aload_n 0, 1), (1326, .iload 4, 2), (1328, .iconst 3, 1), (1329, .iadd, 1), (1330, .iaload, 1), (1331, .aload_n 3, 1), (1332, .invokestatic 201, 3), (1335, .istore 5, 2), (1337, .aload_n 2, 1), (1338, .aload_n 0, 1), (1339, .iload 4, 2), (1341, .iconst 1, 1), (1342, .iadd, 1), (1343, .iaload, 1), (1344, .aload_n 0, 1), (1345, .iload 4, 2), (1347, .iconst 2, 1), (1348, .iadd, 1), (1349, .iaload, 1), (1350, .aload_n 0, 1), (1351, .iload 4, 2), (1353, .iconst 3, 1), (1354, .iadd, 1), (1355, .iaload, 1), (1356, .invokevirtual 203, 3), (1359, .istore 6, 2), (1361, .goto 27, 3)]
def mmS_31 : List (Nat × Instr × Nat) := [(1364, .aload_n 1, 1), (1365, .invokevirtual 204, 3), (1368, .aload_n 2, 1), (1369, .invokevirtual 207, 3), (1372, .goto 16, 3)]
def mmS_32 : List (Nat × Instr × Nat) := [(1375, .aload_n 1, 1), (1376, .invokevirtual 208, 3), (1379, .pop, 1), (1380, .aload_n 2, 1), (1381, .invokevirtual 212, 3), (1384, .pop, 1), (1385, .goto 3, 3)]
def mmS_z : List (Nat × Instr × Nat) := [(1388, .iinc 4 6, 3), (1391, .goto (-1368), 3), (1394, .iconst 1, 1), (1395, .ireturn, 1)]
def mmP_0 : List (Nat × Instr × Nat) := mmS_a
def mmP_1 : List (Nat × Instr × Nat) := mmP_0 ++ mmS_0
def mmP_2 : List (Nat × Instr × Nat) := mmP_1 ++ mmS_1
def mmP_3 : List (Nat × Instr × Nat) := mmP_2 ++ mmS_2
def mmP_4 : List (Nat × Instr × Nat) := mmP_3 ++ mmS_3
def mmP_5 : List (Nat × Instr × Nat) := mmP_4 ++ mmS_4
def mmP_6 : List (Nat × Instr × Nat) := mmP_5 ++ mmS_5
def mmP_7 : List (Nat × Instr × Nat) := mmP_6 ++ mmS_6
def mmP_8 : List (Nat × Instr × Nat) := mmP_7 ++ mmS_7
def mmP_9 : List (Nat × Instr × Nat) := mmP_8 ++ mmS_8
def mmP_10 : List (Nat × Instr × Nat) := mmP_9 ++ mmS_9
def mmP_11 : List (Nat × Instr × Nat) := mmP_10 ++ mmS_10
def mmP_12 : List (Nat × Instr × Nat) := mmP_11 ++ mmS_11
def mmP_13 : List (Nat × Instr × Nat) := mmP_12 ++ mmS_12
def mmP_14 : List (Nat × Instr × Nat) := mmP_13 ++ mmS_13
def mmP_15 : List (Nat × Instr × Nat) := mmP_14 ++ mmS_14
def mmP_16 : List (Nat × Instr × Nat) := mmP_15 ++ mmS_15
def mmP_17 : List (Nat × Instr × Nat) := mmP_16 ++ mmS_16
def mmP_18 : List (Nat × Instr × Nat) := mmP_17 ++ mmS_17
def mmP_19 : List (Nat × Instr × Nat) := mmP_18 ++ mmS_18
def mmP_20 : List (Nat × Instr × Nat) := mmP_19 ++ mmS_19
def mmP_21 : List (Nat × Instr × Nat) := mmP_20 ++ mmS_20
def mmP_22 : List (Nat × Instr × Nat) := mmP_21 ++ mmS_21
def mmP_23 : List (Nat × Instr × Nat) := mmP_22 ++ mmS_22
def mmP_24 : List (Nat × Instr × Nat) := mmP_23 ++ mmS_23
def mmP_25 : List (Nat × Instr × Nat) := mmP_24 ++ mmS_24
def mmP_26 : List (Nat × Instr × Nat) := mmP_25 ++ mmS_25
def mmP_27 : List (Nat × Instr × Nat) := mmP_26 ++ mmS_26
def mmP_28 : List (Nat × Instr × Nat) := mmP_27 ++ mmS_27
def mmP_29 : List (Nat × Instr × Nat) := mmP_28 ++ mmS_28
def mmP_30 : List (Nat × Instr × Nat) := mmP_29 ++ mmS_29
def mmP_31 : List (Nat × Instr × Nat) := mmP_30 ++ mmS_30
def mmP_32 : List (Nat × Instr × Nat) := mmP_31 ++ mmS_31
def mmP_33 : List (Nat × Instr × Nat) := mmP_32 ++ mmS_32
def mmR_33 : List (Nat × Instr × Nat) := mmS_z
def mmR_32 : List (Nat × Instr × Nat) := mmS_32 ++ mmR_33
def mmR_31 : List (Nat × Instr × Nat) := mmS_31 ++ mmR_32
def mmR_30 : List (Nat × Instr × Nat) := mmS_30 ++ mmR_31
def mmR_29 : List (Nat × Instr × Nat) := mmS_29 ++ mmR_30
def mmR_28 : List (Nat × Instr × Nat) := mmS_28 ++ mmR_29
def mmR_27 : List (Nat × Instr × Nat) := mmS_27 ++ mmR_28
def mmR_26 : List (Nat × Instr × Nat) := mmS_26 ++ mmR_27
def mmR_25 : List (Nat × Instr × Nat) := mmS_25 ++ mmR_26
def mmR_24 : List (Nat × Instr × Nat) := mmS_24 ++ mmR_25
def mmR_23 : List (Nat × Instr × Nat) := mmS_23 ++ mmR_24
def mmR_22 : List (Nat × Instr × Nat) := mmS_22 ++ mmR_23
def mmR_21 : List (Nat × Instr × Nat) := mmS_21 ++ mmR_22
def mmR_20 : List (Nat × Instr × Nat) := mmS_20 ++ mmR_21
def mmR_19 : List (Nat × Instr × Nat) := mmS_19 ++ mmR_20
def mmR_18 : List (Nat × Instr × Nat) := mmS_18 ++ mmR_19
def mmR_17 : List (Nat × Instr × Nat) := mmS_17 ++ mmR_18
def mmR_16 : List (Nat × Instr × Nat) := mmS_16 ++ mmR_17
def mmR_15 : List (Nat × Instr × Nat) := mmS_15 ++ mmR_16
def mmR_14 : List (Nat × Instr × Nat) := mmS_14 ++ mmR_15
def mmR_13 : List (Nat × Instr × Nat) := mmS_13 ++ mmR_14
def mmR_12 : List (Nat × Instr × Nat) := mmS_12 ++ mmR_13
def mmR_11 : List (Nat × Instr × Nat) := mmS_11 ++ mmR_12
def mmR_10 : List (Nat × Instr × Nat) := mmS_10 ++ mmR_11
def mmR_9 : List (Nat × Instr × Nat) := mmS_9 ++ mmR_10
def mmR_8 : List (Nat × Instr × Nat) := mmS_8 ++ mmR_9
def mmR_7 : List (Nat × Instr × Nat) := mmS_7 ++ mmR_8
def mmR_6 : List (Nat × Instr × Nat) := mmS_6 ++ mmR_7
def mmR_5 : List (Nat × Instr × Nat) := mmS_5 ++ mmR_6
def mmR_4 : List (Nat × Instr × Nat) := mmS_4 ++ mmR_5
def mmR_3 : List (Nat × Instr × Nat) := mmS_3 ++ mmR_4
def mmR_2 : List (Nat × Instr × Nat) := mmS_2 ++ mmR_3
def mmR_1 : List (Nat × Instr × Nat) := mmS_1 ++ mmR_2
def mmR_0 : List (Nat × Instr × Nat) := mmS_0 ++ mmR_1
set_option maxRecDepth 100000 in
theorem sd_0 : mmL_law.2.2.2.2 = mmP_0 ++ mmR_0 := rfl
theorem sd_1 : mmL_law.2.2.2.2 = mmP_1 ++ mmR_1 := sd_0.trans (List.append_assoc mmP_0 mmS_0 mmR_1).symm
theorem sd_2 : mmL_law.2.2.2.2 = mmP_2 ++ mmR_2 := sd_1.trans (List.append_assoc mmP_1 mmS_1 mmR_2).symm
theorem sd_3 : mmL_law.2.2.2.2 = mmP_3 ++ mmR_3 := sd_2.trans (List.append_assoc mmP_2 mmS_2 mmR_3).symm
theorem sd_4 : mmL_law.2.2.2.2 = mmP_4 ++ mmR_4 := sd_3.trans (List.append_assoc mmP_3 mmS_3 mmR_4).symm
theorem sd_5 : mmL_law.2.2.2.2 = mmP_5 ++ mmR_5 := sd_4.trans (List.append_assoc mmP_4 mmS_4 mmR_5).symm
theorem sd_6 : mmL_law.2.2.2.2 = mmP_6 ++ mmR_6 := sd_5.trans (List.append_assoc mmP_5 mmS_5 mmR_6).symm
theorem sd_7 : mmL_law.2.2.2.2 = mmP_7 ++ mmR_7 := sd_6.trans (List.append_assoc mmP_6 mmS_6 mmR_7).symm
theorem sd_8 : mmL_law.2.2.2.2 = mmP_8 ++ mmR_8 := sd_7.trans (List.append_assoc mmP_7 mmS_7 mmR_8).symm
theorem sd_9 : mmL_law.2.2.2.2 = mmP_9 ++ mmR_9 := sd_8.trans (List.append_assoc mmP_8 mmS_8 mmR_9).symm
theorem sd_10 : mmL_law.2.2.2.2 = mmP_10 ++ mmR_10 := sd_9.trans (List.append_assoc mmP_9 mmS_9 mmR_10).symm
theorem sd_11 : mmL_law.2.2.2.2 = mmP_11 ++ mmR_11 := sd_10.trans (List.append_assoc mmP_10 mmS_10 mmR_11).symm
theorem sd_12 : mmL_law.2.2.2.2 = mmP_12 ++ mmR_12 := sd_11.trans (List.append_assoc mmP_11 mmS_11 mmR_12).symm
theorem sd_13 : mmL_law.2.2.2.2 = mmP_13 ++ mmR_13 := sd_12.trans (List.append_assoc mmP_12 mmS_12 mmR_13).symm
theorem sd_14 : mmL_law.2.2.2.2 = mmP_14 ++ mmR_14 := sd_13.trans (List.append_assoc mmP_13 mmS_13 mmR_14).symm
theorem sd_15 : mmL_law.2.2.2.2 = mmP_15 ++ mmR_15 := sd_14.trans (List.append_assoc mmP_14 mmS_14 mmR_15).symm
theorem sd_16 : mmL_law.2.2.2.2 = mmP_16 ++ mmR_16 := sd_15.trans (List.append_assoc mmP_15 mmS_15 mmR_16).symm
theorem sd_17 : mmL_law.2.2.2.2 = mmP_17 ++ mmR_17 := sd_16.trans (List.append_assoc mmP_16 mmS_16 mmR_17).symm
theorem sd_18 : mmL_law.2.2.2.2 = mmP_18 ++ mmR_18 := sd_17.trans (List.append_assoc mmP_17 mmS_17 mmR_18).symm
theorem sd_19 : mmL_law.2.2.2.2 = mmP_19 ++ mmR_19 := sd_18.trans (List.append_assoc mmP_18 mmS_18 mmR_19).symm
theorem sd_20 : mmL_law.2.2.2.2 = mmP_20 ++ mmR_20 := sd_19.trans (List.append_assoc mmP_19 mmS_19 mmR_20).symm
theorem sd_21 : mmL_law.2.2.2.2 = mmP_21 ++ mmR_21 := sd_20.trans (List.append_assoc mmP_20 mmS_20 mmR_21).symm
theorem sd_22 : mmL_law.2.2.2.2 = mmP_22 ++ mmR_22 := sd_21.trans (List.append_assoc mmP_21 mmS_21 mmR_22).symm
theorem sd_23 : mmL_law.2.2.2.2 = mmP_23 ++ mmR_23 := sd_22.trans (List.append_assoc mmP_22 mmS_22 mmR_23).symm
theorem sd_24 : mmL_law.2.2.2.2 = mmP_24 ++ mmR_24 := sd_23.trans (List.append_assoc mmP_23 mmS_23 mmR_24).symm
theorem sd_25 : mmL_law.2.2.2.2 = mmP_25 ++ mmR_25 := sd_24.trans (List.append_assoc mmP_24 mmS_24 mmR_25).symm
theorem sd_26 : mmL_law.2.2.2.2 = mmP_26 ++ mmR_26 := sd_25.trans (List.append_assoc mmP_25 mmS_25 mmR_26).symm
theorem sd_27 : mmL_law.2.2.2.2 = mmP_27 ++ mmR_27 := sd_26.trans (List.append_assoc mmP_26 mmS_26 mmR_27).symm
theorem sd_28 : mmL_law.2.2.2.2 = mmP_28 ++ mmR_28 := sd_27.trans (List.append_assoc mmP_27 mmS_27 mmR_28).symm
theorem sd_29 : mmL_law.2.2.2.2 = mmP_29 ++ mmR_29 := sd_28.trans (List.append_assoc mmP_28 mmS_28 mmR_29).symm
theorem sd_30 : mmL_law.2.2.2.2 = mmP_30 ++ mmR_30 := sd_29.trans (List.append_assoc mmP_29 mmS_29 mmR_30).symm
theorem sd_31 : mmL_law.2.2.2.2 = mmP_31 ++ mmR_31 := sd_30.trans (List.append_assoc mmP_30 mmS_30 mmR_31).symm
theorem sd_32 : mmL_law.2.2.2.2 = mmP_32 ++ mmR_32 := sd_31.trans (List.append_assoc mmP_31 mmS_31 mmR_32).symm
theorem sd_33 : mmL_law.2.2.2.2 = mmP_33 ++ mmR_33 := sd_32.trans (List.append_assoc mmP_32 mmS_32 mmR_33).symm
set_option maxRecDepth 100000 in
theorem sg_0 : ∀ (pc : Nat) (v : Instr × Nat), mm_look mmS_0 pc = some v → mm_look mmL_law.2.2.2.2 pc = some v := sg_in (k := 188) sd_0 (by decide +kernel) (by decide +kernel)
set_option maxRecDepth 100000 in
theorem sg_1 : ∀ (pc : Nat) (v : Instr × Nat), mm_look mmS_1 pc = some v → mm_look mmL_law.2.2.2.2 pc = some v := sg_in (k := 261) sd_1 (by decide +kernel) (by decide +kernel)
set_option maxRecDepth 100000 in
theorem sg_2 : ∀ (pc : Nat) (v : Instr × Nat), mm_look mmS_2 pc = some v → mm_look mmL_law.2.2.2.2 pc = some v := sg_in (k := 289) sd_2 (by decide +kernel) (by decide +kernel)
set_option maxRecDepth 100000 in
theorem sg_3 : ∀ (pc : Nat) (v : Instr × Nat), mm_look mmS_3 pc = some v → mm_look mmL_law.2.2.2.2 pc = some v := sg_in (k := 302) sd_3 (by decide +kernel) (by decide +kernel)
set_option maxRecDepth 100000 in
theorem sg_4 : ∀ (pc : Nat) (v : Instr × Nat), mm_look mmS_4 pc = some v → mm_look mmL_law.2.2.2.2 pc = some v := sg_in (k := 330) sd_4 (by decide +kernel) (by decide +kernel)
set_option maxRecDepth 100000 in
theorem sg_5 : ∀ (pc : Nat) (v : Instr × Nat), mm_look mmS_5 pc = some v → mm_look mmL_law.2.2.2.2 pc = some v := sg_in (k := 370) sd_5 (by decide +kernel) (by decide +kernel)
set_option maxRecDepth 100000 in
theorem sg_6 : ∀ (pc : Nat) (v : Instr × Nat), mm_look mmS_6 pc = some v → mm_look mmL_law.2.2.2.2 pc = some v := sg_in (k := 410) sd_6 (by decide +kernel) (by decide +kernel)
set_option maxRecDepth 100000 in
theorem sg_7 : ∀ (pc : Nat) (v : Instr × Nat), mm_look mmS_7 pc = some v → mm_look mmL_law.2.2.2.2 pc = some v := sg_in (k := 450) sd_7 (by decide +kernel) (by decide +kernel)
set_option maxRecDepth 100000 in
theorem sg_8 : ∀ (pc : Nat) (v : Instr × Nat), mm_look mmS_8 pc = some v → mm_look mmL_law.2.2.2.2 pc = some v := sg_in (k := 475) sd_8 (by decide +kernel) (by decide +kernel)
set_option maxRecDepth 100000 in
theorem sg_9 : ∀ (pc : Nat) (v : Instr × Nat), mm_look mmS_9 pc = some v → mm_look mmL_law.2.2.2.2 pc = some v := sg_in (k := 515) sd_9 (by decide +kernel) (by decide +kernel)
set_option maxRecDepth 100000 in
theorem sg_10 : ∀ (pc : Nat) (v : Instr × Nat), mm_look mmS_10 pc = some v → mm_look mmL_law.2.2.2.2 pc = some v := sg_in (k := 555) sd_10 (by decide +kernel) (by decide +kernel)
set_option maxRecDepth 100000 in
theorem sg_11 : ∀ (pc : Nat) (v : Instr × Nat), mm_look mmS_11 pc = some v → mm_look mmL_law.2.2.2.2 pc = some v := sg_in (k := 583) sd_11 (by decide +kernel) (by decide +kernel)
set_option maxRecDepth 100000 in
theorem sg_12 : ∀ (pc : Nat) (v : Instr × Nat), mm_look mmS_12 pc = some v → mm_look mmL_law.2.2.2.2 pc = some v := sg_in (k := 635) sd_12 (by decide +kernel) (by decide +kernel)
set_option maxRecDepth 100000 in
theorem sg_13 : ∀ (pc : Nat) (v : Instr × Nat), mm_look mmS_13 pc = some v → mm_look mmL_law.2.2.2.2 pc = some v := sg_in (k := 648) sd_13 (by decide +kernel) (by decide +kernel)
set_option maxRecDepth 100000 in
theorem sg_14 : ∀ (pc : Nat) (v : Instr × Nat), mm_look mmS_14 pc = some v → mm_look mmL_law.2.2.2.2 pc = some v := sg_in (k := 700) sd_14 (by decide +kernel) (by decide +kernel)
set_option maxRecDepth 100000 in
theorem sg_15 : ∀ (pc : Nat) (v : Instr × Nat), mm_look mmS_15 pc = some v → mm_look mmL_law.2.2.2.2 pc = some v := sg_in (k := 752) sd_15 (by decide +kernel) (by decide +kernel)
set_option maxRecDepth 100000 in
theorem sg_16 : ∀ (pc : Nat) (v : Instr × Nat), mm_look mmS_16 pc = some v → mm_look mmL_law.2.2.2.2 pc = some v := sg_in (k := 792) sd_16 (by decide +kernel) (by decide +kernel)
set_option maxRecDepth 100000 in
theorem sg_17 : ∀ (pc : Nat) (v : Instr × Nat), mm_look mmS_17 pc = some v → mm_look mmL_law.2.2.2.2 pc = some v := sg_in (k := 820) sd_17 (by decide +kernel) (by decide +kernel)
set_option maxRecDepth 100000 in
theorem sg_18 : ∀ (pc : Nat) (v : Instr × Nat), mm_look mmS_18 pc = some v → mm_look mmL_law.2.2.2.2 pc = some v := sg_in (k := 860) sd_18 (by decide +kernel) (by decide +kernel)
set_option maxRecDepth 100000 in
theorem sg_19 : ∀ (pc : Nat) (v : Instr × Nat), mm_look mmS_19 pc = some v → mm_look mmL_law.2.2.2.2 pc = some v := sg_in (k := 900) sd_19 (by decide +kernel) (by decide +kernel)
set_option maxRecDepth 100000 in
theorem sg_20 : ∀ (pc : Nat) (v : Instr × Nat), mm_look mmS_20 pc = some v → mm_look mmL_law.2.2.2.2 pc = some v := sg_in (k := 952) sd_20 (by decide +kernel) (by decide +kernel)
set_option maxRecDepth 100000 in
theorem sg_21 : ∀ (pc : Nat) (v : Instr × Nat), mm_look mmS_21 pc = some v → mm_look mmL_law.2.2.2.2 pc = some v := sg_in (k := 980) sd_21 (by decide +kernel) (by decide +kernel)
set_option maxRecDepth 100000 in
theorem sg_22 : ∀ (pc : Nat) (v : Instr × Nat), mm_look mmS_22 pc = some v → mm_look mmL_law.2.2.2.2 pc = some v := sg_in (k := 1036) sd_22 (by decide +kernel) (by decide +kernel)
set_option maxRecDepth 100000 in
theorem sg_23 : ∀ (pc : Nat) (v : Instr × Nat), mm_look mmS_23 pc = some v → mm_look mmL_law.2.2.2.2 pc = some v := sg_in (k := 1076) sd_23 (by decide +kernel) (by decide +kernel)
set_option maxRecDepth 100000 in
theorem sg_24 : ∀ (pc : Nat) (v : Instr × Nat), mm_look mmS_24 pc = some v → mm_look mmL_law.2.2.2.2 pc = some v := sg_in (k := 1089) sd_24 (by decide +kernel) (by decide +kernel)
set_option maxRecDepth 100000 in
theorem sg_25 : ∀ (pc : Nat) (v : Instr × Nat), mm_look mmS_25 pc = some v → mm_look mmL_law.2.2.2.2 pc = some v := sg_in (k := 1141) sd_25 (by decide +kernel) (by decide +kernel)
set_option maxRecDepth 100000 in
theorem sg_26 : ∀ (pc : Nat) (v : Instr × Nat), mm_look mmS_26 pc = some v → mm_look mmL_law.2.2.2.2 pc = some v := sg_in (k := 1169) sd_26 (by decide +kernel) (by decide +kernel)
set_option maxRecDepth 100000 in
theorem sg_27 : ∀ (pc : Nat) (v : Instr × Nat), mm_look mmS_27 pc = some v → mm_look mmL_law.2.2.2.2 pc = some v := sg_in (k := 1197) sd_27 (by decide +kernel) (by decide +kernel)
set_option maxRecDepth 100000 in
theorem sg_28 : ∀ (pc : Nat) (v : Instr × Nat), mm_look mmS_28 pc = some v → mm_look mmL_law.2.2.2.2 pc = some v := sg_in (k := 1208) sd_28 (by decide +kernel) (by decide +kernel)
set_option maxRecDepth 100000 in
theorem sg_29 : ∀ (pc : Nat) (v : Instr × Nat), mm_look mmS_29 pc = some v → mm_look mmL_law.2.2.2.2 pc = some v := sg_in (k := 1260) sd_29 (by decide +kernel) (by decide +kernel)
set_option maxRecDepth 100000 in
theorem sg_30 : ∀ (pc : Nat) (v : Instr × Nat), mm_look mmS_30 pc = some v → mm_look mmL_law.2.2.2.2 pc = some v := sg_in (k := 1312) sd_30 (by decide +kernel) (by decide +kernel)
set_option maxRecDepth 100000 in
theorem sg_31 : ∀ (pc : Nat) (v : Instr × Nat), mm_look mmS_31 pc = some v → mm_look mmL_law.2.2.2.2 pc = some v := sg_in (k := 1364) sd_31 (by decide +kernel) (by decide +kernel)
set_option maxRecDepth 100000 in
theorem sg_32 : ∀ (pc : Nat) (v : Instr × Nat), mm_look mmS_32 pc = some v → mm_look mmL_law.2.2.2.2 pc = some v := sg_in (k := 1375) sd_32 (by decide +kernel) (by decide +kernel)
set_option maxHeartbeats 4000000 in
set_option maxRecDepth 100000 in
theorem law_0 {d : Nat} (hd : 3 ≤ d) {so : Option Nat} {L : Nat} (hL : L ≤ 3072) {i : Int} (h0 : 0 ≤ i) (h6 : i + 6 ≤ L) {o5 o6 : Option Value} (h5 : mz_nl o5) (h6_ : mz_nl o6) {g : mz_G} {x : mm_X} (P : mz_Lq so L i g x) (T : RR x g) {Q : (Option Value ⊕ Nat) → mm_H → Prop} (kk : ∀ g1 x1 p5 p6, mz_nl p5 → mz_nl p6 → mz_Lq so L (i + 6) g1 x1 → RR x1 g1 → mm_W d mmL_law 1388 [some (.ref 5000), some (.ref 0), some (.ref 137), some (.ref 179), some (.int (Int32.ofInt i)), p5, p6] [] (mz_mk g1 x1) Q) : mm_W d mmL_law 188 [some (.ref 5000), some (.ref 0), some (.ref 137), some (.ref 179), some (.int (Int32.ofInt i)), o5, o6] [] (mz_mk g x) Q := by
  refine mm_g2 sg_0 4 (pc1 := 193) (lo1 := [some (.ref 5000), some (.ref 0), some (.ref 137), some (.ref 179), some (.int (Int32.ofInt i)), o5, o6]) (st1 := [.int (Int32.ofInt 1), .int (Int32.ofInt i), .ref 5000, .ref 0]) (H1 := mz_mk g x) rfl ?_
  refine mz_iadd (sg_0 _ _ rfl) ?_
  refine mz_iaS (v := (g 5000 ((i + 1) : Int).toNat)) (sg_0 _ _ rfl) (sh_5000 _) (by omega) (by have h9 := P.2.2.2.2.1; omega) (by have h9 := P.2.2.2.2.1; omega) rfl ?_
  refine mm_g2 sg_0 3 (pc1 := 199) (lo1 := [some (.ref 5000), some (.ref 0), some (.ref 137), some (.ref 179), some (.int (Int32.ofInt i)), o5, o6]) (st1 := [.int (Int32.ofInt 2), .int (Int32.ofInt i), .ref 5000, .int (Int32.ofInt (g 5000 ((i + 1) : Int).toNat)), .ref 0]) (H1 := mz_mk g x) rfl ?_
  refine mz_iadd (sg_0 _ _ rfl) ?_
  refine mz_iaS (v := (g 5000 ((i + 2) : Int).toNat)) (sg_0 _ _ rfl) (sh_5000 _) (by omega) (by have h9 := P.2.2.2.2.1; omega) (by have h9 := P.2.2.2.2.1; omega) rfl ?_
  refine mm_g2 sg_0 3 (pc1 := 205) (lo1 := [some (.ref 5000), some (.ref 0), some (.ref 137), some (.ref 179), some (.int (Int32.ofInt i)), o5, o6]) (st1 := [.int (Int32.ofInt 3), .int (Int32.ofInt i), .ref 5000, .int (Int32.ofInt (g 5000 ((i + 2) : Int).toNat)), .int (Int32.ofInt (g 5000 ((i + 1) : Int).toNat)), .ref 0]) (H1 := mz_mk g x) rfl ?_
  refine mz_iadd (sg_0 _ _ rfl) ?_
  refine mz_iaS (v := (g 5000 ((i + 3) : Int).toNat)) (sg_0 _ _ rfl) (sh_5000 _) (by omega) (by have h9 := P.2.2.2.2.1; omega) (by have h9 := P.2.2.2.2.1; omega) rfl ?_
  refine mm_g2 sg_0 3 (pc1 := 211) (lo1 := [some (.ref 5000), some (.ref 0), some (.ref 137), some (.ref 179), some (.int (Int32.ofInt i)), o5, o6]) (st1 := [.int (Int32.ofInt 4), .int (Int32.ofInt i), .ref 5000, .int (Int32.ofInt (g 5000 ((i + 3) : Int).toNat)), .int (Int32.ofInt (g 5000 ((i + 2) : Int).toNat)), .int (Int32.ofInt (g 5000 ((i + 1) : Int).toNat)), .ref 0]) (H1 := mz_mk g x) rfl ?_
  refine mz_iadd (sg_0 _ _ rfl) ?_
  refine mz_iaS (v := (g 5000 ((i + 4) : Int).toNat)) (sg_0 _ _ rfl) (sh_5000 _) (by omega) (by have h9 := P.2.2.2.2.1; omega) (by have h9 := P.2.2.2.2.1; omega) rfl ?_
  refine mm_g2 sg_0 3 (pc1 := 217) (lo1 := [some (.ref 5000), some (.ref 0), some (.ref 137), some (.ref 179), some (.int (Int32.ofInt i)), o5, o6]) (st1 := [.int (Int32.ofInt 5), .int (Int32.ofInt i), .ref 5000, .int (Int32.ofInt (g 5000 ((i + 4) : Int).toNat)), .int (Int32.ofInt (g 5000 ((i + 3) : Int).toNat)), .int (Int32.ofInt (g 5000 ((i + 2) : Int).toNat)), .int (Int32.ofInt (g 5000 ((i + 1) : Int).toNat)), .ref 0]) (H1 := mz_mk g x) rfl ?_
  refine mz_iadd (sg_0 _ _ rfl) ?_
  refine mz_iaS (v := (g 5000 ((i + 5) : Int).toNat)) (sg_0 _ _ rfl) (sh_5000 _) (by omega) (by have h9 := P.2.2.2.2.1; omega) (by have h9 := P.2.2.2.2.1; omega) rfl ?_
  refine mz_cv (sg_0 _ _ rfl) mt_13_95 (by decide) rfl rfl (Nat.le_of_ble_eq_true rfl) (by omega) (f_X11_feed (by omega) P.2.1 P.1 (mz_rd P.1 (bd_5000 _)).1 (mz_rd P.1 (bd_5000 _)).2 (mz_rd P.1 (bd_5000 _)).1 (mz_rd P.1 (bd_5000 _)).2 (mz_rd P.1 (bd_5000 _)).1 (mz_rd P.1 (bd_5000 _)).2 (mz_rd P.1 (bd_5000 _)).1 (mz_rd P.1 (bd_5000 _)).2 (mz_rd P.1 (bd_5000 _)).1 (mz_rd P.1 (bd_5000 _)).2 (fun r1 g1 hI1 hf1 l_r1 u_r1 hp1_0 e1 => ⟨_, rfl, ?_⟩))
  have hS1 : ∀ k j : Nat, 137 ≤ k → g1 k j = g k j := fun k j hk => hf1 k j (nw_X11_feed_137 P.2.1 k j hk)
  have P1 := mz_Lq_c P hI1 hS1 (mz_xx_rf P.2.1)
  show mm_W d mmL_law 222 [some (.ref 5000), some (.ref 0), some (.ref 137), some (.ref 179), some (.int (Int32.ofInt i)), o5, o6] [.int (Int32.ofInt r1)] (mz_mk g1 x) Q
  refine mm_g2 sg_0 5 (pc1 := 228) (lo1 := [some (.ref 5000), some (.ref 0), some (.ref 137), some (.ref 179), some (.int (Int32.ofInt i)), o5, o6]) (st1 := [.int (Int32.ofInt 1), .int (Int32.ofInt i), .ref 5000, .ref 137]) (H1 := mz_mk g1 x) rfl ?_
  refine mz_iadd (sg_0 _ _ rfl) ?_
  refine mz_iaS (v := (g1 5000 ((i + 1) : Int).toNat)) (sg_0 _ _ rfl) (sh_5000 _) (by omega) (by have h9 := P1.2.2.2.2.1; omega) (by have h9 := P1.2.2.2.2.1; omega) rfl ?_
  refine mm_g2 sg_0 3 (pc1 := 234) (lo1 := [some (.ref 5000), some (.ref 0), some (.ref 137), some (.ref 179), some (.int (Int32.ofInt i)), o5, o6]) (st1 := [.int (Int32.ofInt 2), .int (Int32.ofInt i), .ref 5000, .int (Int32.ofInt (g1 5000 ((i + 1) : Int).toNat)), .ref 137]) (H1 := mz_mk g1 x) rfl ?_
  refine mz_iadd (sg_0 _ _ rfl) ?_
  refine mz_iaS (v := (g1 5000 ((i + 2) : Int).toNat)) (sg_0 _ _ rfl) (sh_5000 _) (by omega) (by have h9 := P1.2.2.2.2.1; omega) (by have h9 := P1.2.2.2.2.1; omega) rfl ?_
  refine mm_g2 sg_0 3 (pc1 := 240) (lo1 := [some (.ref 5000), some (.ref 0), some (.ref 137), some (.ref 179), some (.int (Int32.ofInt i)), o5, o6]) (st1 := [.int (Int32.ofInt 3), .int (Int32.ofInt i), .ref 5000, .int (Int32.ofInt (g1 5000 ((i + 2) : Int).toNat)), .int (Int32.ofInt (g1 5000 ((i + 1) : Int).toNat)), .ref 137]) (H1 := mz_mk g1 x) rfl ?_
  refine mz_iadd (sg_0 _ _ rfl) ?_
  refine mz_iaS (v := (g1 5000 ((i + 3) : Int).toNat)) (sg_0 _ _ rfl) (sh_5000 _) (by omega) (by have h9 := P1.2.2.2.2.1; omega) (by have h9 := P1.2.2.2.2.1; omega) rfl ?_
  refine mm_g2 sg_0 3 (pc1 := 246) (lo1 := [some (.ref 5000), some (.ref 0), some (.ref 137), some (.ref 179), some (.int (Int32.ofInt i)), o5, o6]) (st1 := [.int (Int32.ofInt 4), .int (Int32.ofInt i), .ref 5000, .int (Int32.ofInt (g1 5000 ((i + 3) : Int).toNat)), .int (Int32.ofInt (g1 5000 ((i + 2) : Int).toNat)), .int (Int32.ofInt (g1 5000 ((i + 1) : Int).toNat)), .ref 137]) (H1 := mz_mk g1 x) rfl ?_
  refine mz_iadd (sg_0 _ _ rfl) ?_
  refine mz_iaS (v := (g1 5000 ((i + 4) : Int).toNat)) (sg_0 _ _ rfl) (sh_5000 _) (by omega) (by have h9 := P1.2.2.2.2.1; omega) (by have h9 := P1.2.2.2.2.1; omega) rfl ?_
  refine mm_g2 sg_0 3 (pc1 := 252) (lo1 := [some (.ref 5000), some (.ref 0), some (.ref 137), some (.ref 179), some (.int (Int32.ofInt i)), o5, o6]) (st1 := [.int (Int32.ofInt 5), .int (Int32.ofInt i), .ref 5000, .int (Int32.ofInt (g1 5000 ((i + 4) : Int).toNat)), .int (Int32.ofInt (g1 5000 ((i + 3) : Int).toNat)), .int (Int32.ofInt (g1 5000 ((i + 2) : Int).toNat)), .int (Int32.ofInt (g1 5000 ((i + 1) : Int).toNat)), .ref 137]) (H1 := mz_mk g1 x) rfl ?_
  refine mz_iadd (sg_0 _ _ rfl) ?_
  refine mz_iaS (v := (g1 5000 ((i + 5) : Int).toNat)) (sg_0 _ _ rfl) (sh_5000 _) (by omega) (by have h9 := P1.2.2.2.2.1; omega) (by have h9 := P1.2.2.2.2.1; omega) rfl ?_
  refine mz_cv (sg_0 _ _ rfl) mt_13_99 (by decide) rfl rfl (Nat.le_of_ble_eq_true rfl) (by omega) (f_X12_feed (by omega) P1.2.1 P1.1 (mz_rd P1.1 (bd_5000 _)).1 (mz_rd P1.1 (bd_5000 _)).2 (mz_rd P1.1 (bd_5000 _)).1 (mz_rd P1.1 (bd_5000 _)).2 (mz_rd P1.1 (bd_5000 _)).1 (mz_rd P1.1 (bd_5000 _)).2 (mz_rd P1.1 (bd_5000 _)).1 (mz_rd P1.1 (bd_5000 _)).2 (mz_rd P1.1 (bd_5000 _)).1 (mz_rd P1.1 (bd_5000 _)).2 P1.2.2.1.1 P1.2.2.1.2.1 (fun r2 g2 hI2 hf2 l_r2 u_r2 hp2_0 hp2_1 e2 => ⟨_, rfl, ?_⟩))
  have hq2 : ∀ j : Nat, g1 5000 j = g 5000 j := fun j => hS1 5000 j (by decide)
  rw [hq2, hq2, hq2, hq2, hq2] at e2
  have hF2 : ∀ a b : Nat, a < 137 ∨ 2000 ≤ a → g2 a b = g1 a b := fun a b z => hf2 a b (fun y => by have w := (nz_X12_feed_lo P1.2.1 _ _ y); omega)
  have P2 := mz_Lq_m P1 hI2 (fun h => mz_MI_eq h (fun j => hf2 149 j (nw_X12_feed_149 P1.2.1 j)) (fun j => hf2 142 j (nw_X12_feed_142 P1.2.1 j)) (hf2 140 0 (nw_X12_feed_140 P1.2.1 0 (by decide))) (hf2 140 1 (nw_X12_feed_140 P1.2.1 1 (by decide))) (hf2 140 3 (nw_X12_feed_140 P1.2.1 3 (by decide))) hp2_0)
  obtain ⟨hT2, hE⟩ := RR_feed P.2.1 T P.1 e1 hS1 (fun a b z => hf1 a b (fun y => z (nz_X11_feed_fA P.2.1 _ _ y))) e2 (fun a b z => hf2 a b (fun y => z (nz_X12_feed_fB P1.2.1 _ _ y)))
  show mm_W d mmL_law 257 [some (.ref 5000), some (.ref 0), some (.ref 137), some (.ref 179), some (.int (Int32.ofInt i)), o5, o6] [.int (Int32.ofInt r2)] (mz_mk g2 x) Q
  refine mm_g2 sg_0 1 (pc1 := 258) (lo1 := [some (.ref 5000), some (.ref 0), some (.ref 137), some (.ref 179), some (.int (Int32.ofInt i)), o5, o6]) (st1 := []) (H1 := mz_mk g2 x) rfl ?_
  refine mz_gt (tgt := 1388) (sg_0 _ _ rfl) rfl ?_
  exact kk g2 x _ _ h5 h6_ P2 hT2
set_option maxHeartbeats 4000000 in
set_option maxRecDepth 100000 in
theorem law_1 {d : Nat} (hd : 91 ≤ d) {so : Option Nat} {L : Nat} (hL : L ≤ 3072) {i : Int} (h0 : 0 ≤ i) (h6 : i + 6 ≤ L) {o5 o6 : Option Value} (h5 : mz_nl o5) (h6_ : mz_nl o6) {g : mz_G} {x : mm_X} (P : mz_Lq so L i g x) (T : RR x g) {Q : (Option Value ⊕ Nat) → mm_H → Prop} (kk : ∀ g1 x1 p5 p6, mz_nl p5 → mz_nl p6 → mz_Lq so L (i + 6) g1 x1 → RR x1 g1 → mm_W d mmL_law 1388 [some (.ref 5000), some (.ref 0), some (.ref 137), some (.ref 179), some (.int (Int32.ofInt i)), p5, p6] [] (mz_mk g1 x1) Q) : mm_W d mmL_law 261 [some (.ref 5000), some (.ref 0), some (.ref 137), some (.ref 179), some (.int (Int32.ofInt i)), o5, o6] [] (mz_mk g x) Q := by
  refine mm_g2 sg_1 4 (pc1 := 266) (lo1 := [some (.ref 5000), some (.ref 0), some (.ref 137), some (.ref 179), some (.int (Int32.ofInt i)), o5, o6]) (st1 := [.int (Int32.ofInt 1), .int (Int32.ofInt i), .ref 5000, .ref 0]) (H1 := mz_mk g x) rfl ?_
  refine mz_iadd (sg_1 _ _ rfl) ?_
  refine mz_iaS (v := (g 5000 ((i + 1) : Int).toNat)) (sg_1 _ _ rfl) (sh_5000 _) (by omega) (by have h9 := P.2.2.2.2.1; omega) (by have h9 := P.2.2.2.2.1; omega) rfl ?_
  refine mm_g2 sg_1 1 (pc1 := 269) (lo1 := [some (.ref 5000), some (.ref 0), some (.ref 137), some (.ref 179), some (.int (Int32.ofInt i)), o5, o6]) (st1 := [.ref 179, .int (Int32.ofInt (g 5000 ((i + 1) : Int).toNat)), .ref 0]) (H1 := mz_mk g x) rfl ?_
  refine mz_cs (sg_1 _ _ rfl) mt_13_100 (by decide) rfl (Nat.le_of_ble_eq_true rfl) (by omega) (w_L_baggage (by omega) P.2.1 P.1 (mz_rd P.1 (bd_5000 _)).1 (mz_rd P.1 (bd_5000 _)).2 (fun r1 g1 x1 hI1 hX1 hS1 hW1 => ⟨_, rfl, ?_⟩))
  have P1 := mz_Lq_c P hI1 hS1 hX1
  show mm_W d mmL_law 272 [some (.ref 5000), some (.ref 0), some (.ref 137), some (.ref 179), some (.int (Int32.ofInt i)), o5, o6] [.int (Int32.ofInt r1)] (mz_mk g1 x1) Q
  refine mm_g2 sg_1 5 (pc1 := 279) (lo1 := [some (.ref 5000), some (.ref 0), some (.ref 137), some (.ref 179), some (.int (Int32.ofInt i)), some (.int (Int32.ofInt r1)), o6]) (st1 := [.int (Int32.ofInt 1), .int (Int32.ofInt i), .ref 5000, .ref 137]) (H1 := mz_mk g1 x1) rfl ?_
  refine mz_iadd (sg_1 _ _ rfl) ?_
  refine mz_iaS (v := (g1 5000 ((i + 1) : Int).toNat)) (sg_1 _ _ rfl) (sh_5000 _) (by omega) (by have h9 := P1.2.2.2.2.1; omega) (by have h9 := P1.2.2.2.2.1; omega) rfl ?_
  refine mz_cv (sg_1 _ _ rfl) mt_13_105 (by decide) rfl rfl (Nat.le_of_ble_eq_true rfl) (by omega) (f_X12_baggage (by omega) P1.2.1 P1.1 (mz_rd P1.1 (bd_5000 _)).1 (mz_rd P1.1 (bd_5000 _)).2 (fun r2 g2 hI2 hf2 l_r2 u_r2 hp2_0 hp2_1 e2 => ⟨_, rfl, ?_⟩))
  have hq2 : ∀ j : Nat, g1 5000 j = g 5000 j := fun j => hS1 5000 j (by decide)
  rw [hq2] at e2
  have hF2 : ∀ a b : Nat, a < 137 ∨ 2000 ≤ a → g2 a b = g1 a b := fun a b z => hf2 a b (fun y => by have w := (nz_X12_baggage_lo P1.2.1 _ _ y); omega)
  have P2 := mz_Lq_m P1 hI2 hp2_1
  obtain ⟨hT2, hk2, hO2, hr0, hr2⟩ := RR_kb P1.2.1 hW1 e2 (bag_kk P.2.1 P.1 P1.1 (RR_s T hS1)) (bag_kw P.2.1 P.1 P1.1 (RR_s T hS1) T.2) hF2
  show mm_W d mmL_law 284 [some (.ref 5000), some (.ref 0), some (.ref 137), some (.ref 179), some (.int (Int32.ofInt i)), some (.int (Int32.ofInt r1)), o6] [.int (Int32.ofInt r2)] (mz_mk g2 x1) Q
  refine mm_g2 sg_1 1 (pc1 := 286) (lo1 := [some (.ref 5000), some (.ref 0), some (.ref 137), some (.ref 179), some (.int (Int32.ofInt i)), some (.int (Int32.ofInt r1)), some (.int (Int32.ofInt r2))]) (st1 := []) (H1 := mz_mk g2 x1) rfl ?_
  refine mz_gt (tgt := 1388) (sg_1 _ _ rfl) rfl ?_
  exact kk g2 x1 _ _ (mz_nl_i _) (mz_nl_i _) P2 hT2
set_option maxHeartbeats 4000000 in
set_option maxRecDepth 100000 in
theorem law_2 {d : Nat} (hd : 2 ≤ d) {so : Option Nat} {L : Nat} (hL : L ≤ 3072) {i : Int} (h0 : 0 ≤ i) (h6 : i + 6 ≤ L) {o5 o6 : Option Value} (h5 : mz_nl o5) (h6_ : mz_nl o6) {g : mz_G} {x : mm_X} (P : mz_Lq so L i g x) (T : RR x g) {Q : (Option Value ⊕ Nat) → mm_H → Prop} (kk : ∀ g1 x1 p5 p6, mz_nl p5 → mz_nl p6 → mz_Lq so L (i + 6) g1 x1 → RR x1 g1 → mm_W d mmL_law 1388 [some (.ref 5000), some (.ref 0), some (.ref 137), some (.ref 179), some (.int (Int32.ofInt i)), p5, p6] [] (mz_mk g1 x1) Q) : mm_W d mmL_law 289 [some (.ref 5000), some (.ref 0), some (.ref 137), some (.ref 179), some (.int (Int32.ofInt i)), o5, o6] [] (mz_mk g x) Q := by
  refine mm_g2 sg_2 1 (pc1 := 290) (lo1 := [some (.ref 5000), some (.ref 0), some (.ref 137), some (.ref 179), some (.int (Int32.ofInt i)), o5, o6]) (st1 := [.ref 0]) (H1 := mz_mk g x) rfl ?_
  refine mz_cv (sg_2 _ _ rfl) mt_13_106 (by decide) rfl rfl (Nat.le_of_ble_eq_true rfl) (by omega) (f_X11_fault (by omega) P.2.1 P.1 (fun r1 l_r1 u_r1 e1 => ⟨_, rfl, ?_⟩))
  have P1 := mz_Lq_c P P.1 (fun _ _ _ => rfl) (mz_xx_rf P.2.1)
  show mm_W d mmL_law 293 [some (.ref 5000), some (.ref 0), some (.ref 137), some (.ref 179), some (.int (Int32.ofInt i)), o5, o6] [.int (Int32.ofInt r1)] (mz_mk g x) Q
  refine mm_g2 sg_2 2 (pc1 := 295) (lo1 := [some (.ref 5000), some (.ref 0), some (.ref 137), some (.ref 179), some (.int (Int32.ofInt i)), o5, o6]) (st1 := [.ref 137]) (H1 := mz_mk g x) rfl ?_
  refine mz_cv (sg_2 _ _ rfl) mt_13_110 (by decide) rfl rfl (Nat.le_of_ble_eq_true rfl) (by omega) (f_X12_fault (by omega) P1.2.1 P1.1 P1.2.2.1.1 P1.2.2.1.2.1 (fun r2 g2 hI2 hf2 l_r2 u_r2 hp2_0 e2 => ⟨_, rfl, ?_⟩))
  have hF2 : ∀ a b : Nat, a < 137 ∨ 2000 ≤ a → g2 a b = g a b := fun a b z => hf2 a b (fun y => by have w := (nz_X12_fault_lo P1.2.1 _ _ y); omega)
  have hR2 : mz_sr g g2 := ⟨hf2 82 1 (nw_X12_fault_82 P1.2.1), hf2 137 15 (nw_X12_fault_15 P1.2.1), fun j => hf2 149 j (nw_X12_fault_149 P1.2.1 j), fun j => hf2 142 j (nw_X12_fault_142 P1.2.1 j), fun j hj => hf2 140 j (nw_X12_fault_140 P1.2.1 j hj)⟩
  have P2 := mz_Lq_r P1 hI2 hR2 hp2_0
  have hT2 := RR_b P1.2.1 T hF2 (fun a b z => hf2 a b (fun y => z (nz_X12_fault_nb P1.2.1 _ _ y)))
  show mm_W d mmL_law 298 [some (.ref 5000), some (.ref 0), some (.ref 137), some (.ref 179), some (.int (Int32.ofInt i)), o5, o6] [.int (Int32.ofInt r2)] (mz_mk g2 x) Q
  refine mm_g2 sg_2 1 (pc1 := 299) (lo1 := [some (.ref 5000), some (.ref 0), some (.ref 137), some (.ref 179), some (.int (Int32.ofInt i)), o5, o6]) (st1 := []) (H1 := mz_mk g2 x) rfl ?_
  refine mz_gt (tgt := 1388) (sg_2 _ _ rfl) rfl ?_
  exact kk g2 x _ _ h5 h6_ P2 hT2
set_option maxHeartbeats 4000000 in
set_option maxRecDepth 100000 in
theorem law_3 {d : Nat} (hd : 17 ≤ d) {so : Option Nat} {L : Nat} (hL : L ≤ 3072) {i : Int} (h0 : 0 ≤ i) (h6 : i + 6 ≤ L) {o5 o6 : Option Value} (h5 : mz_nl o5) (h6_ : mz_nl o6) {g : mz_G} {x : mm_X} (P : mz_Lq so L i g x) (T : RR x g) {Q : (Option Value ⊕ Nat) → mm_H → Prop} (kk : ∀ g1 x1 p5 p6, mz_nl p5 → mz_nl p6 → mz_Lq so L (i + 6) g1 x1 → RR x1 g1 → mm_W d mmL_law 1388 [some (.ref 5000), some (.ref 0), some (.ref 137), some (.ref 179), some (.int (Int32.ofInt i)), p5, p6] [] (mz_mk g1 x1) Q) : mm_W d mmL_law 302 [some (.ref 5000), some (.ref 0), some (.ref 137), some (.ref 179), some (.int (Int32.ofInt i)), o5, o6] [] (mz_mk g x) Q := by
  refine mm_g2 sg_3 4 (pc1 := 307) (lo1 := [some (.ref 5000), some (.ref 0), some (.ref 137), some (.ref 179), some (.int (Int32.ofInt i)), o5, o6]) (st1 := [.int (Int32.ofInt 1), .int (Int32.ofInt i), .ref 5000, .ref 0]) (H1 := mz_mk g x) rfl ?_
  refine mz_iadd (sg_3 _ _ rfl) ?_
  refine mz_iaS (v := (g 5000 ((i + 1) : Int).toNat)) (sg_3 _ _ rfl) (sh_5000 _) (by omega) (by have h9 := P.2.2.2.2.1; omega) (by have h9 := P.2.2.2.2.1; omega) rfl ?_
  refine mm_g2 sg_3 1 (pc1 := 310) (lo1 := [some (.ref 5000), some (.ref 0), some (.ref 137), some (.ref 179), some (.int (Int32.ofInt i)), o5, o6]) (st1 := [.ref 179, .int (Int32.ofInt (g 5000 ((i + 1) : Int).toNat)), .ref 0]) (H1 := mz_mk g x) rfl ?_
  refine mz_cs (sg_3 _ _ rfl) mt_13_111 (by decide) rfl (Nat.le_of_ble_eq_true rfl) (by omega) (w_L_count (by omega) P.2.1 P.1 (mz_rd P.1 (bd_5000 _)).1 (mz_rd P.1 (bd_5000 _)).2 (fun r1 g1 x1 hI1 hX1 hS1 hW1 hN1 => ⟨_, rfl, ?_⟩))
  have P1 := mz_Lq_c P hI1 hS1 hX1
  have hT1 : RR x1 g1 := RR_q P.2.1 T hS1 hN1 hW1.2.2.2.1
  show mm_W d mmL_law 313 [some (.ref 5000), some (.ref 0), some (.ref 137), some (.ref 179), some (.int (Int32.ofInt i)), o5, o6] [.int (Int32.ofInt r1)] (mz_mk g1 x1) Q
  refine mm_g2 sg_3 5 (pc1 := 320) (lo1 := [some (.ref 5000), some (.ref 0), some (.ref 137), some (.ref 179), some (.int (Int32.ofInt i)), some (.int (Int32.ofInt r1)), o6]) (st1 := [.int (Int32.ofInt 1), .int (Int32.ofInt i), .ref 5000, .ref 137]) (H1 := mz_mk g1 x1) rfl ?_
  refine mz_iadd (sg_3 _ _ rfl) ?_
  refine mz_iaS (v := (g1 5000 ((i + 1) : Int).toNat)) (sg_3 _ _ rfl) (sh_5000 _) (by omega) (by have h9 := P1.2.2.2.2.1; omega) (by have h9 := P1.2.2.2.2.1; omega) rfl ?_
  refine mz_cv (sg_3 _ _ rfl) mt_13_113 (by decide) rfl rfl (Nat.le_of_ble_eq_true rfl) (by omega) (f_X12_count (by omega) P1.2.1 P1.1 (mz_rd P1.1 (bd_5000 _)).1 (mz_rd P1.1 (bd_5000 _)).2 P1.2.2.1.1 P1.2.2.1.2.1 (fun r2 g2 hI2 hf2 l_r2 u_r2 hp2_0 e2 => ⟨_, rfl, ?_⟩))
  have hF2 : ∀ a b : Nat, a < 137 ∨ 2000 ≤ a → g2 a b = g1 a b := fun a b z => hf2 a b (fun y => by have w := (nz_X12_count_lo P1.2.1 _ _ y); omega)
  have hR2 : mz_sr g1 g2 := ⟨hf2 82 1 (nw_X12_count_82 P1.2.1), hf2 137 15 (nw_X12_count_15 P1.2.1), fun j => hf2 149 j (nw_X12_count_149 P1.2.1 j), fun j => hf2 142 j (nw_X12_count_142 P1.2.1 j), fun j hj => hf2 140 j (nw_X12_count_140 P1.2.1 j hj)⟩
  have P2 := mz_Lq_r P1 hI2 hR2 hp2_0
  have hT2 := RR_b P1.2.1 hT1 hF2 (fun a b z => hf2 a b (fun y => z (nz_X12_count_nb P1.2.1 _ _ y)))
  show mm_W d mmL_law 325 [some (.ref 5000), some (.ref 0), some (.ref 137), some (.ref 179), some (.int (Int32.ofInt i)), some (.int (Int32.ofInt r1)), o6] [.int (Int32.ofInt r2)] (mz_mk g2 x1) Q
  refine mm_g2 sg_3 1 (pc1 := 327) (lo1 := [some (.ref 5000), some (.ref 0), some (.ref 137), some (.ref 179), some (.int (Int32.ofInt i)), some (.int (Int32.ofInt r1)), some (.int (Int32.ofInt r2))]) (st1 := []) (H1 := mz_mk g2 x1) rfl ?_
  refine mz_gt (tgt := 1388) (sg_3 _ _ rfl) rfl ?_
  exact kk g2 x1 _ _ (mz_nl_i _) (mz_nl_i _) P2 hT2
set_option maxHeartbeats 4000000 in
set_option maxRecDepth 100000 in
theorem law_4 {d : Nat} (hd : 15 ≤ d) {so : Option Nat} {L : Nat} (hL : L ≤ 3072) {i : Int} (h0 : 0 ≤ i) (h6 : i + 6 ≤ L) {o5 o6 : Option Value} (h5 : mz_nl o5) (h6_ : mz_nl o6) {g : mz_G} {x : mm_X} (P : mz_Lq so L i g x) (T : RR x g) {Q : (Option Value ⊕ Nat) → mm_H → Prop} (kk : ∀ g1 x1 p5 p6, mz_nl p5 → mz_nl p6 → mz_Lq so L (i + 6) g1 x1 → RR x1 g1 → mm_W d mmL_law 1388 [some (.ref 5000), some (.ref 0), some (.ref 137), some (.ref 179), some (.int (Int32.ofInt i)), p5, p6] [] (mz_mk g1 x1) Q) : mm_W d mmL_law 330 [some (.ref 5000), some (.ref 0), some (.ref 137), some (.ref 179), some (.int (Int32.ofInt i)), o5, o6] [] (mz_mk g x) Q := by
  refine mm_g2 sg_4 4 (pc1 := 335) (lo1 := [some (.ref 5000), some (.ref 0), some (.ref 137), some (.ref 179), some (.int (Int32.ofInt i)), o5, o6]) (st1 := [.int (Int32.ofInt 1), .int (Int32.ofInt i), .ref 5000, .ref 0]) (H1 := mz_mk g x) rfl ?_
  refine mz_iadd (sg_4 _ _ rfl) ?_
  refine mz_iaS (v := (g 5000 ((i + 1) : Int).toNat)) (sg_4 _ _ rfl) (sh_5000 _) (by omega) (by have h9 := P.2.2.2.2.1; omega) (by have h9 := P.2.2.2.2.1; omega) rfl ?_
  refine mm_g2 sg_4 3 (pc1 := 341) (lo1 := [some (.ref 5000), some (.ref 0), some (.ref 137), some (.ref 179), some (.int (Int32.ofInt i)), o5, o6]) (st1 := [.int (Int32.ofInt 2), .int (Int32.ofInt i), .ref 5000, .int (Int32.ofInt (g 5000 ((i + 1) : Int).toNat)), .ref 0]) (H1 := mz_mk g x) rfl ?_
  refine mz_iadd (sg_4 _ _ rfl) ?_
  refine mz_iaS (v := (g 5000 ((i + 2) : Int).toNat)) (sg_4 _ _ rfl) (sh_5000 _) (by omega) (by have h9 := P.2.2.2.2.1; omega) (by have h9 := P.2.2.2.2.1; omega) rfl ?_
  refine mm_g2 sg_4 1 (pc1 := 344) (lo1 := [some (.ref 5000), some (.ref 0), some (.ref 137), some (.ref 179), some (.int (Int32.ofInt i)), o5, o6]) (st1 := [.ref 179, .int (Int32.ofInt (g 5000 ((i + 2) : Int).toNat)), .int (Int32.ofInt (g 5000 ((i + 1) : Int).toNat)), .ref 0]) (H1 := mz_mk g x) rfl ?_
  refine mz_cs (sg_4 _ _ rfl) mt_13_114 (by decide) rfl (Nat.le_of_ble_eq_true rfl) (by omega) (w_L_word (by omega) P.2.1 P.1 (mz_rd P.1 (bd_5000 _)).1 (mz_rd P.1 (bd_5000 _)).2 (mz_rd P.1 (bd_5000 _)).1 (mz_rd P.1 (bd_5000 _)).2 (fun r1 g1 x1 hI1 hX1 hS1 hW1 hN1 => ⟨_, rfl, ?_⟩))
  have P1 := mz_Lq_c P hI1 hS1 hX1
  have hT1 : RR x1 g1 := RR_q P.2.1 T hS1 hN1 hW1.2.2.2.1
  show mm_W d mmL_law 347 [some (.ref 5000), some (.ref 0), some (.ref 137), some (.ref 179), some (.int (Int32.ofInt i)), o5, o6] [.int (Int32.ofInt r1)] (mz_mk g1 x1) Q
  refine mm_g2 sg_4 5 (pc1 := 354) (lo1 := [some (.ref 5000), some (.ref 0), some (.ref 137), some (.ref 179), some (.int (Int32.ofInt i)), some (.int (Int32.ofInt r1)), o6]) (st1 := [.int (Int32.ofInt 1), .int (Int32.ofInt i), .ref 5000, .ref 137]) (H1 := mz_mk g1 x1) rfl ?_
  refine mz_iadd (sg_4 _ _ rfl) ?_
  refine mz_iaS (v := (g1 5000 ((i + 1) : Int).toNat)) (sg_4 _ _ rfl) (sh_5000 _) (by omega) (by have h9 := P1.2.2.2.2.1; omega) (by have h9 := P1.2.2.2.2.1; omega) rfl ?_
  refine mm_g2 sg_4 3 (pc1 := 360) (lo1 := [some (.ref 5000), some (.ref 0), some (.ref 137), some (.ref 179), some (.int (Int32.ofInt i)), some (.int (Int32.ofInt r1)), o6]) (st1 := [.int (Int32.ofInt 2), .int (Int32.ofInt i), .ref 5000, .int (Int32.ofInt (g1 5000 ((i + 1) : Int).toNat)), .ref 137]) (H1 := mz_mk g1 x1) rfl ?_
  refine mz_iadd (sg_4 _ _ rfl) ?_
  refine mz_iaS (v := (g1 5000 ((i + 2) : Int).toNat)) (sg_4 _ _ rfl) (sh_5000 _) (by omega) (by have h9 := P1.2.2.2.2.1; omega) (by have h9 := P1.2.2.2.2.1; omega) rfl ?_
  refine mz_cv (sg_4 _ _ rfl) mt_13_117 (by decide) rfl rfl (Nat.le_of_ble_eq_true rfl) (by omega) (f_X12_word (by omega) P1.2.1 P1.1 (mz_rd P1.1 (bd_5000 _)).1 (mz_rd P1.1 (bd_5000 _)).2 (mz_rd P1.1 (bd_5000 _)).1 (mz_rd P1.1 (bd_5000 _)).2 P1.2.2.1.1 P1.2.2.1.2.1 (fun r2 g2 hI2 hf2 l_r2 u_r2 hp2_0 e2 => ⟨_, rfl, ?_⟩))
  have hF2 : ∀ a b : Nat, a < 137 ∨ 2000 ≤ a → g2 a b = g1 a b := fun a b z => hf2 a b (fun y => by have w := (nz_X12_word_lo P1.2.1 _ _ y); omega)
  have hR2 : mz_sr g1 g2 := ⟨hf2 82 1 (nw_X12_word_82 P1.2.1), hf2 137 15 (nw_X12_word_15 P1.2.1), fun j => hf2 149 j (nw_X12_word_149 P1.2.1 j), fun j => hf2 142 j (nw_X12_word_142 P1.2.1 j), fun j hj => hf2 140 j (nw_X12_word_140 P1.2.1 j hj)⟩
  have P2 := mz_Lq_r P1 hI2 hR2 hp2_0
  have hT2 := RR_b P1.2.1 hT1 hF2 (fun a b z => hf2 a b (fun y => z (nz_X12_word_nb P1.2.1 _ _ y)))
  show mm_W d mmL_law 365 [some (.ref 5000), some (.ref 0), some (.ref 137), some (.ref 179), some (.int (Int32.ofInt i)), some (.int (Int32.ofInt r1)), o6] [.int (Int32.ofInt r2)] (mz_mk g2 x1) Q
  refine mm_g2 sg_4 1 (pc1 := 367) (lo1 := [some (.ref 5000), some (.ref 0), some (.ref 137), some (.ref 179), some (.int (Int32.ofInt i)), some (.int (Int32.ofInt r1)), some (.int (Int32.ofInt r2))]) (st1 := []) (H1 := mz_mk g2 x1) rfl ?_
  refine mz_gt (tgt := 1388) (sg_4 _ _ rfl) rfl ?_
  exact kk g2 x1 _ _ (mz_nl_i _) (mz_nl_i _) P2 hT2
set_option maxHeartbeats 4000000 in
set_option maxRecDepth 100000 in
theorem law_5 {d : Nat} (hd : 15 ≤ d) {so : Option Nat} {L : Nat} (hL : L ≤ 3072) {i : Int} (h0 : 0 ≤ i) (h6 : i + 6 ≤ L) {o5 o6 : Option Value} (h5 : mz_nl o5) (h6_ : mz_nl o6) {g : mz_G} {x : mm_X} (P : mz_Lq so L i g x) (T : RR x g) {Q : (Option Value ⊕ Nat) → mm_H → Prop} (kk : ∀ g1 x1 p5 p6, mz_nl p5 → mz_nl p6 → mz_Lq so L (i + 6) g1 x1 → RR x1 g1 → mm_W d mmL_law 1388 [some (.ref 5000), some (.ref 0), some (.ref 137), some (.ref 179), some (.int (Int32.ofInt i)), p5, p6] [] (mz_mk g1 x1) Q) : mm_W d mmL_law 370 [some (.ref 5000), some (.ref 0), some (.ref 137), some (.ref 179), some (.int (Int32.ofInt i)), o5, o6] [] (mz_mk g x) Q := by
  refine mm_g2 sg_5 4 (pc1 := 375) (lo1 := [some (.ref 5000), some (.ref 0), some (.ref 137), some (.ref 179), some (.int (Int32.ofInt i)), o5, o6]) (st1 := [.int (Int32.ofInt 1), .int (Int32.ofInt i), .ref 5000, .ref 0]) (H1 := mz_mk g x) rfl ?_
  refine mz_iadd (sg_5 _ _ rfl) ?_
  refine mz_iaS (v := (g 5000 ((i + 1) : Int).toNat)) (sg_5 _ _ rfl) (sh_5000 _) (by omega) (by have h9 := P.2.2.2.2.1; omega) (by have h9 := P.2.2.2.2.1; omega) rfl ?_
  refine mm_g2 sg_5 3 (pc1 := 381) (lo1 := [some (.ref 5000), some (.ref 0), some (.ref 137), some (.ref 179), some (.int (Int32.ofInt i)), o5, o6]) (st1 := [.int (Int32.ofInt 2), .int (Int32.ofInt i), .ref 5000, .int (Int32.ofInt (g 5000 ((i + 1) : Int).toNat)), .ref 0]) (H1 := mz_mk g x) rfl ?_
  refine mz_iadd (sg_5 _ _ rfl) ?_
  refine mz_iaS (v := (g 5000 ((i + 2) : Int).toNat)) (sg_5 _ _ rfl) (sh_5000 _) (by omega) (by have h9 := P.2.2.2.2.1; omega) (by have h9 := P.2.2.2.2.1; omega) rfl ?_
  refine mm_g2 sg_5 1 (pc1 := 384) (lo1 := [some (.ref 5000), some (.ref 0), some (.ref 137), some (.ref 179), some (.int (Int32.ofInt i)), o5, o6]) (st1 := [.ref 179, .int (Int32.ofInt (g 5000 ((i + 2) : Int).toNat)), .int (Int32.ofInt (g 5000 ((i + 1) : Int).toNat)), .ref 0]) (H1 := mz_mk g x) rfl ?_
  refine mz_cs (sg_5 _ _ rfl) mt_13_118 (by decide) rfl (Nat.le_of_ble_eq_true rfl) (by omega) (w_L_letter (by omega) P.2.1 P.1 (mz_rd P.1 (bd_5000 _)).1 (mz_rd P.1 (bd_5000 _)).2 (mz_rd P.1 (bd_5000 _)).1 (mz_rd P.1 (bd_5000 _)).2 (fun r1 g1 x1 hI1 hX1 hS1 hW1 hN1 => ⟨_, rfl, ?_⟩))
  have P1 := mz_Lq_c P hI1 hS1 hX1
  have hT1 : RR x1 g1 := RR_q P.2.1 T hS1 hN1 hW1.2.2.2.1
  show mm_W d mmL_law 387 [some (.ref 5000), some (.ref 0), some (.ref 137), some (.ref 179), some (.int (Int32.ofInt i)), o5, o6] [.int (Int32.ofInt r1)] (mz_mk g1 x1) Q
  refine mm_g2 sg_5 5 (pc1 := 394) (lo1 := [some (.ref 5000), some (.ref 0), some (.ref 137), some (.ref 179), some (.int (Int32.ofInt i)), some (.int (Int32.ofInt r1)), o6]) (st1 := [.int (Int32.ofInt 1), .int (Int32.ofInt i), .ref 5000, .ref 137]) (H1 := mz_mk g1 x1) rfl ?_
  refine mz_iadd (sg_5 _ _ rfl) ?_
  refine mz_iaS (v := (g1 5000 ((i + 1) : Int).toNat)) (sg_5 _ _ rfl) (sh_5000 _) (by omega) (by have h9 := P1.2.2.2.2.1; omega) (by have h9 := P1.2.2.2.2.1; omega) rfl ?_
  refine mm_g2 sg_5 3 (pc1 := 400) (lo1 := [some (.ref 5000), some (.ref 0), some (.ref 137), some (.ref 179), some (.int (Int32.ofInt i)), some (.int (Int32.ofInt r1)), o6]) (st1 := [.int (Int32.ofInt 2), .int (Int32.ofInt i), .ref 5000, .int (Int32.ofInt (g1 5000 ((i + 1) : Int).toNat)), .ref 137]) (H1 := mz_mk g1 x1) rfl ?_
  refine mz_iadd (sg_5 _ _ rfl) ?_
  refine mz_iaS (v := (g1 5000 ((i + 2) : Int).toNat)) (sg_5 _ _ rfl) (sh_5000 _) (by omega) (by have h9 := P1.2.2.2.2.1; omega) (by have h9 := P1.2.2.2.2.1; omega) rfl ?_
  refine mz_cv (sg_5 _ _ rfl) mt_13_120 (by decide) rfl rfl (Nat.le_of_ble_eq_true rfl) (by omega) (f_X12_letter (by omega) P1.2.1 P1.1 (mz_rd P1.1 (bd_5000 _)).1 (mz_rd P1.1 (bd_5000 _)).2 (mz_rd P1.1 (bd_5000 _)).1 (mz_rd P1.1 (bd_5000 _)).2 P1.2.2.1.1 P1.2.2.1.2.1 (fun r2 g2 hI2 hf2 l_r2 u_r2 hp2_0 e2 => ⟨_, rfl, ?_⟩))
  have hF2 : ∀ a b : Nat, a < 137 ∨ 2000 ≤ a → g2 a b = g1 a b := fun a b z => hf2 a b (fun y => by have w := (nz_X12_letter_lo P1.2.1 _ _ y); omega)
  have hR2 : mz_sr g1 g2 := ⟨hf2 82 1 (nw_X12_letter_82 P1.2.1), hf2 137 15 (nw_X12_letter_15 P1.2.1), fun j => hf2 149 j (nw_X12_letter_149 P1.2.1 j), fun j => hf2 142 j (nw_X12_letter_142 P1.2.1 j), fun j hj => hf2 140 j (nw_X12_letter_140 P1.2.1 j hj)⟩
  have P2 := mz_Lq_r P1 hI2 hR2 hp2_0
  have hT2 := RR_b P1.2.1 hT1 hF2 (fun a b z => hf2 a b (fun y => z (nz_X12_letter_nb P1.2.1 _ _ y)))
  show mm_W d mmL_law 405 [some (.ref 5000), some (.ref 0), some (.ref 137), some (.ref 179), some (.int (Int32.ofInt i)), some (.int (Int32.ofInt r1)), o6] [.int (Int32.ofInt r2)] (mz_mk g2 x1) Q
  refine mm_g2 sg_5 1 (pc1 := 407) (lo1 := [some (.ref 5000), some (.ref 0), some (.ref 137), some (.ref 179), some (.int (Int32.ofInt i)), some (.int (Int32.ofInt r1)), some (.int (Int32.ofInt r2))]) (st1 := []) (H1 := mz_mk g2 x1) rfl ?_
  refine mz_gt (tgt := 1388) (sg_5 _ _ rfl) rfl ?_
  exact kk g2 x1 _ _ (mz_nl_i _) (mz_nl_i _) P2 hT2
set_option maxHeartbeats 4000000 in
set_option maxRecDepth 100000 in
theorem law_6 {d : Nat} (hd : 17 ≤ d) {so : Option Nat} {L : Nat} (hL : L ≤ 3072) {i : Int} (h0 : 0 ≤ i) (h6 : i + 6 ≤ L) {o5 o6 : Option Value} (h5 : mz_nl o5) (h6_ : mz_nl o6) {g : mz_G} {x : mm_X} (P : mz_Lq so L i g x) (T : RR x g) {Q : (Option Value ⊕ Nat) → mm_H → Prop} (kk : ∀ g1 x1 p5 p6, mz_nl p5 → mz_nl p6 → mz_Lq so L (i + 6) g1 x1 → RR x1 g1 → mm_W d mmL_law 1388 [some (.ref 5000), some (.ref 0), some (.ref 137), some (.ref 179), some (.int (Int32.ofInt i)), p5, p6] [] (mz_mk g1 x1) Q) : mm_W d mmL_law 410 [some (.ref 5000), some (.ref 0), some (.ref 137), some (.ref 179), some (.int (Int32.ofInt i)), o5, o6] [] (mz_mk g x) Q := by
  refine mm_g2 sg_6 4 (pc1 := 415) (lo1 := [some (.ref 5000), some (.ref 0), some (.ref 137), some (.ref 179), some (.int (Int32.ofInt i)), o5, o6]) (st1 := [.int (Int32.ofInt 1), .int (Int32.ofInt i), .ref 5000, .ref 0]) (H1 := mz_mk g x) rfl ?_
  refine mz_iadd (sg_6 _ _ rfl) ?_
  refine mz_iaS (v := (g 5000 ((i + 1) : Int).toNat)) (sg_6 _ _ rfl) (sh_5000 _) (by omega) (by have h9 := P.2.2.2.2.1; omega) (by have h9 := P.2.2.2.2.1; omega) rfl ?_
  refine mm_g2 sg_6 3 (pc1 := 421) (lo1 := [some (.ref 5000), some (.ref 0), some (.ref 137), some (.ref 179), some (.int (Int32.ofInt i)), o5, o6]) (st1 := [.int (Int32.ofInt 2), .int (Int32.ofInt i), .ref 5000, .int (Int32.ofInt (g 5000 ((i + 1) : Int).toNat)), .ref 0]) (H1 := mz_mk g x) rfl ?_
  refine mz_iadd (sg_6 _ _ rfl) ?_
  refine mz_iaS (v := (g 5000 ((i + 2) : Int).toNat)) (sg_6 _ _ rfl) (sh_5000 _) (by omega) (by have h9 := P.2.2.2.2.1; omega) (by have h9 := P.2.2.2.2.1; omega) rfl ?_
  refine mm_g2 sg_6 1 (pc1 := 424) (lo1 := [some (.ref 5000), some (.ref 0), some (.ref 137), some (.ref 179), some (.int (Int32.ofInt i)), o5, o6]) (st1 := [.ref 179, .int (Int32.ofInt (g 5000 ((i + 2) : Int).toNat)), .int (Int32.ofInt (g 5000 ((i + 1) : Int).toNat)), .ref 0]) (H1 := mz_mk g x) rfl ?_
  refine mz_cs (sg_6 _ _ rfl) mt_13_121 (by decide) rfl (Nat.le_of_ble_eq_true rfl) (by omega) (w_L_trunk (by omega) P.2.1 P.1 (mz_rd P.1 (bd_5000 _)).1 (mz_rd P.1 (bd_5000 _)).2 (mz_rd P.1 (bd_5000 _)).1 (mz_rd P.1 (bd_5000 _)).2 (fun r1 g1 x1 hI1 hX1 hS1 hW1 hN1 => ⟨_, rfl, ?_⟩))
  have P1 := mz_Lq_c P hI1 hS1 hX1
  have hT1 : RR x1 g1 := RR_q P.2.1 T hS1 hN1 hW1.2.2.2.1
  show mm_W d mmL_law 427 [some (.ref 5000), some (.ref 0), some (.ref 137), some (.ref 179), some (.int (Int32.ofInt i)), o5, o6] [.int (Int32.ofInt r1)] (mz_mk g1 x1) Q
  refine mm_g2 sg_6 5 (pc1 := 434) (lo1 := [some (.ref 5000), some (.ref 0), some (.ref 137), some (.ref 179), some (.int (Int32.ofInt i)), some (.int (Int32.ofInt r1)), o6]) (st1 := [.int (Int32.ofInt 1), .int (Int32.ofInt i), .ref 5000, .ref 137]) (H1 := mz_mk g1 x1) rfl ?_
  refine mz_iadd (sg_6 _ _ rfl) ?_
  refine mz_iaS (v := (g1 5000 ((i + 1) : Int).toNat)) (sg_6 _ _ rfl) (sh_5000 _) (by omega) (by have h9 := P1.2.2.2.2.1; omega) (by have h9 := P1.2.2.2.2.1; omega) rfl ?_
  refine mm_g2 sg_6 3 (pc1 := 440) (lo1 := [some (.ref 5000), some (.ref 0), some (.ref 137), some (.ref 179), some (.int (Int32.ofInt i)), some (.int (Int32.ofInt r1)), o6]) (st1 := [.int (Int32.ofInt 2), .int (Int32.ofInt i), .ref 5000, .int (Int32.ofInt (g1 5000 ((i + 1) : Int).toNat)), .ref 137]) (H1 := mz_mk g1 x1) rfl ?_
  refine mz_iadd (sg_6 _ _ rfl) ?_
  refine mz_iaS (v := (g1 5000 ((i + 2) : Int).toNat)) (sg_6 _ _ rfl) (sh_5000 _) (by omega) (by have h9 := P1.2.2.2.2.1; omega) (by have h9 := P1.2.2.2.2.1; omega) rfl ?_
  refine mz_cv (sg_6 _ _ rfl) mt_13_123 (by decide) rfl rfl (Nat.le_of_ble_eq_true rfl) (by omega) (f_X12_trunk (by omega) P1.2.1 P1.1 (mz_rd P1.1 (bd_5000 _)).1 (mz_rd P1.1 (bd_5000 _)).2 (mz_rd P1.1 (bd_5000 _)).1 (mz_rd P1.1 (bd_5000 _)).2 P1.2.2.1.1 P1.2.2.1.2.1 (fun r2 g2 hI2 hf2 l_r2 u_r2 hp2_0 e2 => ⟨_, rfl, ?_⟩))
  have hF2 : ∀ a b : Nat, a < 137 ∨ 2000 ≤ a → g2 a b = g1 a b := fun a b z => hf2 a b (fun y => by have w := (nz_X12_trunk_lo P1.2.1 _ _ y); omega)
  have hR2 : mz_sr g1 g2 := ⟨hf2 82 1 (nw_X12_trunk_82 P1.2.1), hf2 137 15 (nw_X12_trunk_15 P1.2.1), fun j => hf2 149 j (nw_X12_trunk_149 P1.2.1 j), fun j => hf2 142 j (nw_X12_trunk_142 P1.2.1 j), fun j hj => hf2 140 j (nw_X12_trunk_140 P1.2.1 j hj)⟩
  have P2 := mz_Lq_r P1 hI2 hR2 hp2_0
  have hT2 := RR_b P1.2.1 hT1 hF2 (fun a b z => hf2 a b (fun y => z (nz_X12_trunk_nb P1.2.1 _ _ y)))
  show mm_W d mmL_law 445 [some (.ref 5000), some (.ref 0), some (.ref 137), some (.ref 179), some (.int (Int32.ofInt i)), some (.int (Int32.ofInt r1)), o6] [.int (Int32.ofInt r2)] (mz_mk g2 x1) Q
  refine mm_g2 sg_6 1 (pc1 := 447) (lo1 := [some (.ref 5000), some (.ref 0), some (.ref 137), some (.ref 179), some (.int (Int32.ofInt i)), some (.int (Int32.ofInt r1)), some (.int (Int32.ofInt r2))]) (st1 := []) (H1 := mz_mk g2 x1) rfl ?_
  refine mz_gt (tgt := 1388) (sg_6 _ _ rfl) rfl ?_
  exact kk g2 x1 _ _ (mz_nl_i _) (mz_nl_i _) P2 hT2
set_option maxHeartbeats 4000000 in
set_option maxRecDepth 100000 in
theorem law_7 {d : Nat} (hd : 17 ≤ d) {so : Option Nat} {L : Nat} (hL : L ≤ 3072) {i : Int} (h0 : 0 ≤ i) (h6 : i + 6 ≤ L) {o5 o6 : Option Value} (h5 : mz_nl o5) (h6_ : mz_nl o6) {g : mz_G} {x : mm_X} (P : mz_Lq so L i g x) (T : RR x g) {Q : (Option Value ⊕ Nat) → mm_H → Prop} (kk : ∀ g1 x1 p5 p6, mz_nl p5 → mz_nl p6 → mz_Lq so L (i + 6) g1 x1 → RR x1 g1 → mm_W d mmL_law 1388 [some (.ref 5000), some (.ref 0), some (.ref 137), some (.ref 179), some (.int (Int32.ofInt i)), p5, p6] [] (mz_mk g1 x1) Q) : mm_W d mmL_law 450 [some (.ref 5000), some (.ref 0), some (.ref 137), some (.ref 179), some (.int (Int32.ofInt i)), o5, o6] [] (mz_mk g x) Q := by
  refine mm_g2 sg_7 4 (pc1 := 455) (lo1 := [some (.ref 5000), some (.ref 0), some (.ref 137), some (.ref 179), some (.int (Int32.ofInt i)), o5, o6]) (st1 := [.int (Int32.ofInt 1), .int (Int32.ofInt i), .ref 5000, .ref 0]) (H1 := mz_mk g x) rfl ?_
  refine mz_iadd (sg_7 _ _ rfl) ?_
  refine mz_iaS (v := (g 5000 ((i + 1) : Int).toNat)) (sg_7 _ _ rfl) (sh_5000 _) (by omega) (by have h9 := P.2.2.2.2.1; omega) (by have h9 := P.2.2.2.2.1; omega) rfl ?_
  refine mz_cv (sg_7 _ _ rfl) mt_13_124 (by decide) rfl rfl (Nat.le_of_ble_eq_true rfl) (by omega) (f_X11_days (by omega) P.2.1 P.1 (mz_rd P.1 (bd_5000 _)).1 (mz_rd P.1 (bd_5000 _)).2 (fun r1 g1 hI1 hf1 l_r1 u_r1 e1 => ⟨_, rfl, ?_⟩))
  have hS1 : ∀ k j : Nat, 137 ≤ k → g1 k j = g k j := fun k j hk => hf1 k j (nw_X11_days_137 P.2.1 k j hk)
  have P1 := mz_Lq_c P hI1 hS1 (mz_xx_rf P.2.1)
  show mm_W d mmL_law 460 [some (.ref 5000), some (.ref 0), some (.ref 137), some (.ref 179), some (.int (Int32.ofInt i)), o5, o6] [.int (Int32.ofInt r1)] (mz_mk g1 x) Q
  refine mm_g2 sg_7 5 (pc1 := 466) (lo1 := [some (.ref 5000), some (.ref 0), some (.ref 137), some (.ref 179), some (.int (Int32.ofInt i)), o5, o6]) (st1 := [.int (Int32.ofInt 1), .int (Int32.ofInt i), .ref 5000, .ref 137]) (H1 := mz_mk g1 x) rfl ?_
  refine mz_iadd (sg_7 _ _ rfl) ?_
  refine mz_iaS (v := (g1 5000 ((i + 1) : Int).toNat)) (sg_7 _ _ rfl) (sh_5000 _) (by omega) (by have h9 := P1.2.2.2.2.1; omega) (by have h9 := P1.2.2.2.2.1; omega) rfl ?_
  refine mz_cv (sg_7 _ _ rfl) mt_13_127 (by decide) rfl rfl (Nat.le_of_ble_eq_true rfl) (by omega) (f_X12_days (by omega) P1.2.1 P1.1 (mz_rd P1.1 (bd_5000 _)).1 (mz_rd P1.1 (bd_5000 _)).2 P1.2.2.1.1 P1.2.2.1.2.1 (fun r2 g2 hI2 hf2 l_r2 u_r2 hp2_0 e2 => ⟨_, rfl, ?_⟩))
  have hq2 : ∀ j : Nat, g1 5000 j = g 5000 j := fun j => hS1 5000 j (by decide)
  rw [hq2] at e2
  have hF2 : ∀ a b : Nat, a < 137 ∨ 2000 ≤ a → g2 a b = g1 a b := fun a b z => hf2 a b (fun y => by have w := (nz_X12_days_lo P1.2.1 _ _ y); omega)
  have hR2 : mz_sr g1 g2 := ⟨hf2 82 1 (nw_X12_days_82 P1.2.1), hf2 137 15 (nw_X12_days_15 P1.2.1), fun j => hf2 149 j (nw_X12_days_149 P1.2.1 j), fun j => hf2 142 j (nw_X12_days_142 P1.2.1 j), fun j hj => hf2 140 j (nw_X12_days_140 P1.2.1 j hj)⟩
  have P2 := mz_Lq_r P1 hI2 hR2 hp2_0
  obtain ⟨hT2, hE⟩ := RR_kq P.2.1 e1 e2 (days_k P.2.1 (RR_s T hS1) (mz_rd P.1 (bd_5000 _)).1 (mz_rd P.1 (bd_5000 _)).2) hF2 T (fun a b z1 z2 => hf1 a b (fun y => (nz_X11_days_ld P.2.1 _ _ y) ⟨z1, z2⟩))
  show mm_W d mmL_law 471 [some (.ref 5000), some (.ref 0), some (.ref 137), some (.ref 179), some (.int (Int32.ofInt i)), o5, o6] [.int (Int32.ofInt r2)] (mz_mk g2 x) Q
  refine mm_g2 sg_7 1 (pc1 := 472) (lo1 := [some (.ref 5000), some (.ref 0), some (.ref 137), some (.ref 179), some (.int (Int32.ofInt i)), o5, o6]) (st1 := []) (H1 := mz_mk g2 x) rfl ?_
  refine mz_gt (tgt := 1388) (sg_7 _ _ rfl) rfl ?_
  exact kk g2 x _ _ h5 h6_ P2 hT2
set_option maxHeartbeats 4000000 in
set_option maxRecDepth 100000 in
theorem law_8 {d : Nat} (hd : 15 ≤ d) {so : Option Nat} {L : Nat} (hL : L ≤ 3072) {i : Int} (h0 : 0 ≤ i) (h6 : i + 6 ≤ L) {o5 o6 : Option Value} (h5 : mz_nl o5) (h6_ : mz_nl o6) {g : mz_G} {x : mm_X} (P : mz_Lq so L i g x) (T : RR x g) {Q : (Option Value ⊕ Nat) → mm_H → Prop} (kk : ∀ g1 x1 p5 p6, mz_nl p5 → mz_nl p6 → mz_Lq so L (i + 6) g1 x1 → RR x1 g1 → mm_W d mmL_law 1388 [some (.ref 5000), some (.ref 0), some (.ref 137), some (.ref 179), some (.int (Int32.ofInt i)), p5, p6] [] (mz_mk g1 x1) Q) : mm_W d mmL_law 475 [some (.ref 5000), some (.ref 0), some (.ref 137), some (.ref 179), some (.int (Int32.ofInt i)), o5, o6] [] (mz_mk g x) Q := by
  refine mm_g2 sg_8 4 (pc1 := 480) (lo1 := [some (.ref 5000), some (.ref 0), some (.ref 137), some (.ref 179), some (.int (Int32.ofInt i)), o5, o6]) (st1 := [.int (Int32.ofInt 1), .int (Int32.ofInt i), .ref 5000, .ref 0]) (H1 := mz_mk g x) rfl ?_
  refine mz_iadd (sg_8 _ _ rfl) ?_
  refine mz_iaS (v := (g 5000 ((i + 1) : Int).toNat)) (sg_8 _ _ rfl) (sh_5000 _) (by omega) (by have h9 := P.2.2.2.2.1; omega) (by have h9 := P.2.2.2.2.1; omega) rfl ?_
  refine mm_g2 sg_8 3 (pc1 := 486) (lo1 := [some (.ref 5000), some (.ref 0), some (.ref 137), some (.ref 179), some (.int (Int32.ofInt i)), o5, o6]) (st1 := [.int (Int32.ofInt 2), .int (Int32.ofInt i), .ref 5000, .int (Int32.ofInt (g 5000 ((i + 1) : Int).toNat)), .ref 0]) (H1 := mz_mk g x) rfl ?_
  refine mz_iadd (sg_8 _ _ rfl) ?_
  refine mz_iaS (v := (g 5000 ((i + 2) : Int).toNat)) (sg_8 _ _ rfl) (sh_5000 _) (by omega) (by have h9 := P.2.2.2.2.1; omega) (by have h9 := P.2.2.2.2.1; omega) rfl ?_
  refine mm_g2 sg_8 1 (pc1 := 489) (lo1 := [some (.ref 5000), some (.ref 0), some (.ref 137), some (.ref 179), some (.int (Int32.ofInt i)), o5, o6]) (st1 := [.ref 179, .int (Int32.ofInt (g 5000 ((i + 2) : Int).toNat)), .int (Int32.ofInt (g 5000 ((i + 1) : Int).toNat)), .ref 0]) (H1 := mz_mk g x) rfl ?_
  refine mz_cs (sg_8 _ _ rfl) mt_13_128 (by decide) rfl (Nat.le_of_ble_eq_true rfl) (by omega) (w_L_draw (by omega) P.2.1 P.1 (mz_rd P.1 (bd_5000 _)).1 (mz_rd P.1 (bd_5000 _)).2 (mz_rd P.1 (bd_5000 _)).1 (mz_rd P.1 (bd_5000 _)).2 (fun r1 g1 x1 hI1 hX1 hS1 hW1 hM1 => ⟨_, rfl, ?_⟩))
  have P1 := mz_Lq_c P hI1 hS1 hX1
  show mm_W d mmL_law 492 [some (.ref 5000), some (.ref 0), some (.ref 137), some (.ref 179), some (.int (Int32.ofInt i)), o5, o6] [.int (Int32.ofInt r1)] (mz_mk g1 x1) Q
  refine mm_g2 sg_8 5 (pc1 := 499) (lo1 := [some (.ref 5000), some (.ref 0), some (.ref 137), some (.ref 179), some (.int (Int32.ofInt i)), some (.int (Int32.ofInt r1)), o6]) (st1 := [.int (Int32.ofInt 1), .int (Int32.ofInt i), .ref 5000, .ref 137]) (H1 := mz_mk g1 x1) rfl ?_
  refine mz_iadd (sg_8 _ _ rfl) ?_
  refine mz_iaS (v := (g1 5000 ((i + 1) : Int).toNat)) (sg_8 _ _ rfl) (sh_5000 _) (by omega) (by have h9 := P1.2.2.2.2.1; omega) (by have h9 := P1.2.2.2.2.1; omega) rfl ?_
  refine mm_g2 sg_8 3 (pc1 := 505) (lo1 := [some (.ref 5000), some (.ref 0), some (.ref 137), some (.ref 179), some (.int (Int32.ofInt i)), some (.int (Int32.ofInt r1)), o6]) (st1 := [.int (Int32.ofInt 2), .int (Int32.ofInt i), .ref 5000, .int (Int32.ofInt (g1 5000 ((i + 1) : Int).toNat)), .ref 137]) (H1 := mz_mk g1 x1) rfl ?_
  refine mz_iadd (sg_8 _ _ rfl) ?_
  refine mz_iaS (v := (g1 5000 ((i + 2) : Int).toNat)) (sg_8 _ _ rfl) (sh_5000 _) (by omega) (by have h9 := P1.2.2.2.2.1; omega) (by have h9 := P1.2.2.2.2.1; omega) rfl ?_
  refine mz_cv (sg_8 _ _ rfl) mt_13_130 (by decide) rfl rfl (Nat.le_of_ble_eq_true rfl) (by omega) (f_X12_draw (by omega) P1.2.1 P1.1 (mz_rd P1.1 (bd_5000 _)).1 (mz_rd P1.1 (bd_5000 _)).2 (mz_rd P1.1 (bd_5000 _)).1 (mz_rd P1.1 (bd_5000 _)).2 P1.2.2.1.1 P1.2.2.1.2.1 (fun r2 g2 hI2 hf2 l_r2 u_r2 hp2_0 e2 => ⟨_, rfl, ?_⟩))
  have hq2 : ∀ j : Nat, g1 5000 j = g 5000 j := fun j => hS1 5000 j (by decide)
  rw [hq2, hq2] at e2
  have hF2 : ∀ a b : Nat, a < 137 ∨ 2000 ≤ a → g2 a b = g1 a b := fun a b z => hf2 a b (fun y => by have w := (nz_X12_draw_lo P1.2.1 _ _ y); omega)
  have hR2 : mz_sr g1 g2 := ⟨hf2 82 1 (nw_X12_draw_82 P1.2.1), hf2 137 15 (nw_X12_draw_15 P1.2.1), fun j => hf2 149 j (nw_X12_draw_149 P1.2.1 j), fun j => hf2 142 j (nw_X12_draw_142 P1.2.1 j), fun j hj => hf2 140 j (nw_X12_draw_140 P1.2.1 j hj)⟩
  have P2 := mz_Lq_r P1 hI2 hR2 hp2_0
  obtain ⟨hT2, hk2, hO2, hr0, hr2⟩ := RR_kp P.2.1 hW1 e2 (draw_k P.2.1 (RR_s T hS1)) hF2 T hM1
  show mm_W d mmL_law 510 [some (.ref 5000), some (.ref 0), some (.ref 137), some (.ref 179), some (.int (Int32.ofInt i)), some (.int (Int32.ofInt r1)), o6] [.int (Int32.ofInt r2)] (mz_mk g2 x1) Q
  refine mm_g2 sg_8 1 (pc1 := 512) (lo1 := [some (.ref 5000), some (.ref 0), some (.ref 137), some (.ref 179), some (.int (Int32.ofInt i)), some (.int (Int32.ofInt r1)), some (.int (Int32.ofInt r2))]) (st1 := []) (H1 := mz_mk g2 x1) rfl ?_
  refine mz_gt (tgt := 1388) (sg_8 _ _ rfl) rfl ?_
  exact kk g2 x1 _ _ (mz_nl_i _) (mz_nl_i _) P2 hT2
set_option maxHeartbeats 4000000 in
set_option maxRecDepth 100000 in
theorem law_9 {d : Nat} (hd : 16 ≤ d) {so : Option Nat} {L : Nat} (hL : L ≤ 3072) {i : Int} (h0 : 0 ≤ i) (h6 : i + 6 ≤ L) {o5 o6 : Option Value} (h5 : mz_nl o5) (h6_ : mz_nl o6) {g : mz_G} {x : mm_X} (P : mz_Lq so L i g x) (T : RR x g) {Q : (Option Value ⊕ Nat) → mm_H → Prop} (kk : ∀ g1 x1 p5 p6, mz_nl p5 → mz_nl p6 → mz_Lq so L (i + 6) g1 x1 → RR x1 g1 → mm_W d mmL_law 1388 [some (.ref 5000), some (.ref 0), some (.ref 137), some (.ref 179), some (.int (Int32.ofInt i)), p5, p6] [] (mz_mk g1 x1) Q) : mm_W d mmL_law 515 [some (.ref 5000), some (.ref 0), some (.ref 137), some (.ref 179), some (.int (Int32.ofInt i)), o5, o6] [] (mz_mk g x) Q := by
  refine mm_g2 sg_9 4 (pc1 := 520) (lo1 := [some (.ref 5000), some (.ref 0), some (.ref 137), some (.ref 179), some (.int (Int32.ofInt i)), o5, o6]) (st1 := [.int (Int32.ofInt 1), .int (Int32.ofInt i), .ref 5000, .ref 0]) (H1 := mz_mk g x) rfl ?_
  refine mz_iadd (sg_9 _ _ rfl) ?_
  refine mz_iaS (v := (g 5000 ((i + 1) : Int).toNat)) (sg_9 _ _ rfl) (sh_5000 _) (by omega) (by have h9 := P.2.2.2.2.1; omega) (by have h9 := P.2.2.2.2.1; omega) rfl ?_
  refine mm_g2 sg_9 3 (pc1 := 526) (lo1 := [some (.ref 5000), some (.ref 0), some (.ref 137), some (.ref 179), some (.int (Int32.ofInt i)), o5, o6]) (st1 := [.int (Int32.ofInt 2), .int (Int32.ofInt i), .ref 5000, .int (Int32.ofInt (g 5000 ((i + 1) : Int).toNat)), .ref 0]) (H1 := mz_mk g x) rfl ?_
  refine mz_iadd (sg_9 _ _ rfl) ?_
  refine mz_iaS (v := (g 5000 ((i + 2) : Int).toNat)) (sg_9 _ _ rfl) (sh_5000 _) (by omega) (by have h9 := P.2.2.2.2.1; omega) (by have h9 := P.2.2.2.2.1; omega) rfl ?_
  refine mm_g2 sg_9 1 (pc1 := 529) (lo1 := [some (.ref 5000), some (.ref 0), some (.ref 137), some (.ref 179), some (.int (Int32.ofInt i)), o5, o6]) (st1 := [.ref 179, .int (Int32.ofInt (g 5000 ((i + 2) : Int).toNat)), .int (Int32.ofInt (g 5000 ((i + 1) : Int).toNat)), .ref 0]) (H1 := mz_mk g x) rfl ?_
  refine mz_cs (sg_9 _ _ rfl) mt_13_131 (by decide) rfl (Nat.le_of_ble_eq_true rfl) (by omega) (w_L_pull (by omega) P.2.1 P.1 (mz_rd P.1 (bd_5000 _)).1 (mz_rd P.1 (bd_5000 _)).2 (mz_rd P.1 (bd_5000 _)).1 (mz_rd P.1 (bd_5000 _)).2 (fun r1 g1 x1 hI1 hX1 hS1 hW1 hM1 => ⟨_, rfl, ?_⟩))
  have P1 := mz_Lq_c P hI1 hS1 hX1
  show mm_W d mmL_law 532 [some (.ref 5000), some (.ref 0), some (.ref 137), some (.ref 179), some (.int (Int32.ofInt i)), o5, o6] [.int (Int32.ofInt r1)] (mz_mk g1 x1) Q
  refine mm_g2 sg_9 5 (pc1 := 539) (lo1 := [some (.ref 5000), some (.ref 0), some (.ref 137), some (.ref 179), some (.int (Int32.ofInt i)), some (.int (Int32.ofInt r1)), o6]) (st1 := [.int (Int32.ofInt 1), .int (Int32.ofInt i), .ref 5000, .ref 137]) (H1 := mz_mk g1 x1) rfl ?_
  refine mz_iadd (sg_9 _ _ rfl) ?_
  refine mz_iaS (v := (g1 5000 ((i + 1) : Int).toNat)) (sg_9 _ _ rfl) (sh_5000 _) (by omega) (by have h9 := P1.2.2.2.2.1; omega) (by have h9 := P1.2.2.2.2.1; omega) rfl ?_
  refine mm_g2 sg_9 3 (pc1 := 545) (lo1 := [some (.ref 5000), some (.ref 0), some (.ref 137), some (.ref 179), some (.int (Int32.ofInt i)), some (.int (Int32.ofInt r1)), o6]) (st1 := [.int (Int32.ofInt 2), .int (Int32.ofInt i), .ref 5000, .int (Int32.ofInt (g1 5000 ((i + 1) : Int).toNat)), .ref 137]) (H1 := mz_mk g1 x1) rfl ?_
  refine mz_iadd (sg_9 _ _ rfl) ?_
  refine mz_iaS (v := (g1 5000 ((i + 2) : Int).toNat)) (sg_9 _ _ rfl) (sh_5000 _) (by omega) (by have h9 := P1.2.2.2.2.1; omega) (by have h9 := P1.2.2.2.2.1; omega) rfl ?_
  refine mz_cv (sg_9 _ _ rfl) mt_13_133 (by decide) rfl rfl (Nat.le_of_ble_eq_true rfl) (by omega) (f_X12_pull (by omega) P1.2.1 P1.1 (mz_rd P1.1 (bd_5000 _)).1 (mz_rd P1.1 (bd_5000 _)).2 (mz_rd P1.1 (bd_5000 _)).1 (mz_rd P1.1 (bd_5000 _)).2 P1.2.2.1.1 P1.2.2.1.2.1 (fun r2 g2 hI2 hf2 l_r2 u_r2 hp2_0 e2 => ⟨_, rfl, ?_⟩))
  have hq2 : ∀ j : Nat, g1 5000 j = g 5000 j := fun j => hS1 5000 j (by decide)
  rw [hq2, hq2] at e2
  have hF2 : ∀ a b : Nat, a < 137 ∨ 2000 ≤ a → g2 a b = g1 a b := fun a b z => hf2 a b (fun y => by have w := (nz_X12_pull_lo P1.2.1 _ _ y); omega)
  have hR2 : mz_sr g1 g2 := ⟨hf2 82 1 (nw_X12_pull_82 P1.2.1), hf2 137 15 (nw_X12_pull_15 P1.2.1), fun j => hf2 149 j (nw_X12_pull_149 P1.2.1 j), fun j => hf2 142 j (nw_X12_pull_142 P1.2.1 j), fun j hj => hf2 140 j (nw_X12_pull_140 P1.2.1 j hj)⟩
  have P2 := mz_Lq_r P1 hI2 hR2 hp2_0
  obtain ⟨hT2, hk2, hO2, hr0, hr2⟩ := RR_kp P.2.1 hW1 e2 (pull_k P.2.1 (RR_s T hS1)) hF2 T hM1
  show mm_W d mmL_law 550 [some (.ref 5000), some (.ref 0), some (.ref 137), some (.ref 179), some (.int (Int32.ofInt i)), some (.int (Int32.ofInt r1)), o6] [.int (Int32.ofInt r2)] (mz_mk g2 x1) Q
  refine mm_g2 sg_9 1 (pc1 := 552) (lo1 := [some (.ref 5000), some (.ref 0), some (.ref 137), some (.ref 179), some (.int (Int32.ofInt i)), some (.int (Int32.ofInt r1)), some (.int (Int32.ofInt r2))]) (st1 := []) (H1 := mz_mk g2 x1) rfl ?_
  refine mz_gt (tgt := 1388) (sg_9 _ _ rfl) rfl ?_
  exact kk g2 x1 _ _ (mz_nl_i _) (mz_nl_i _) P2 hT2
set_option maxHeartbeats 4000000 in
set_option maxRecDepth 100000 in
theorem law_10 {d : Nat} (hd : 15 ≤ d) {so : Option Nat} {L : Nat} (hL : L ≤ 3072) {i : Int} (h0 : 0 ≤ i) (h6 : i + 6 ≤ L) {o5 o6 : Option Value} (h5 : mz_nl o5) (h6_ : mz_nl o6) {g : mz_G} {x : mm_X} (P : mz_Lq so L i g x) (T : RR x g) {Q : (Option Value ⊕ Nat) → mm_H → Prop} (kk : ∀ g1 x1 p5 p6, mz_nl p5 → mz_nl p6 → mz_Lq so L (i + 6) g1 x1 → RR x1 g1 → mm_W d mmL_law 1388 [some (.ref 5000), some (.ref 0), some (.ref 137), some (.ref 179), some (.int (Int32.ofInt i)), p5, p6] [] (mz_mk g1 x1) Q) : mm_W d mmL_law 555 [some (.ref 5000), some (.ref 0), some (.ref 137), some (.ref 179), some (.int (Int32.ofInt i)), o5, o6] [] (mz_mk g x) Q := by
  refine mm_g2 sg_10 4 (pc1 := 560) (lo1 := [some (.ref 5000), some (.ref 0), some (.ref 137), some (.ref 179), some (.int (Int32.ofInt i)), o5, o6]) (st1 := [.int (Int32.ofInt 1), .int (Int32.ofInt i), .ref 5000, .ref 0]) (H1 := mz_mk g x) rfl ?_
  refine mz_iadd (sg_10 _ _ rfl) ?_
  refine mz_iaS (v := (g 5000 ((i + 1) : Int).toNat)) (sg_10 _ _ rfl) (sh_5000 _) (by omega) (by have h9 := P.2.2.2.2.1; omega) (by have h9 := P.2.2.2.2.1; omega) rfl ?_
  refine mm_g2 sg_10 1 (pc1 := 563) (lo1 := [some (.ref 5000), some (.ref 0), some (.ref 137), some (.ref 179), some (.int (Int32.ofInt i)), o5, o6]) (st1 := [.ref 179, .int (Int32.ofInt (g 5000 ((i + 1) : Int).toNat)), .ref 0]) (H1 := mz_mk g x) rfl ?_
  refine mz_cs (sg_10 _ _ rfl) mt_13_134 (by decide) rfl (Nat.le_of_ble_eq_true rfl) (by omega) (w_L_turn (by omega) P.2.1 P.1 (mz_rd P.1 (bd_5000 _)).1 (mz_rd P.1 (bd_5000 _)).2 (fun r1 g1 x1 hI1 hX1 hS1 hW1 hM1 => ⟨_, rfl, ?_⟩))
  have P1 := mz_Lq_c P hI1 hS1 hX1
  show mm_W d mmL_law 566 [some (.ref 5000), some (.ref 0), some (.ref 137), some (.ref 179), some (.int (Int32.ofInt i)), o5, o6] [.int (Int32.ofInt r1)] (mz_mk g1 x1) Q
  refine mm_g2 sg_10 5 (pc1 := 573) (lo1 := [some (.ref 5000), some (.ref 0), some (.ref 137), some (.ref 179), some (.int (Int32.ofInt i)), some (.int (Int32.ofInt r1)), o6]) (st1 := [.int (Int32.ofInt 1), .int (Int32.ofInt i), .ref 5000, .ref 137]) (H1 := mz_mk g1 x1) rfl ?_
  refine mz_iadd (sg_10 _ _ rfl) ?_
  refine mz_iaS (v := (g1 5000 ((i + 1) : Int).toNat)) (sg_10 _ _ rfl) (sh_5000 _) (by omega) (by have h9 := P1.2.2.2.2.1; omega) (by have h9 := P1.2.2.2.2.1; omega) rfl ?_
  refine mz_cv (sg_10 _ _ rfl) mt_13_136 (by decide) rfl rfl (Nat.le_of_ble_eq_true rfl) (by omega) (f_X12_turn (by omega) P1.2.1 P1.1 (mz_rd P1.1 (bd_5000 _)).1 (mz_rd P1.1 (bd_5000 _)).2 P1.2.2.1.1 P1.2.2.1.2.1 (fun r2 g2 hI2 hf2 l_r2 u_r2 hp2_0 e2 => ⟨_, rfl, ?_⟩))
  have hq2 : ∀ j : Nat, g1 5000 j = g 5000 j := fun j => hS1 5000 j (by decide)
  rw [hq2] at e2
  have hF2 : ∀ a b : Nat, a < 137 ∨ 2000 ≤ a → g2 a b = g1 a b := fun a b z => hf2 a b (fun y => by have w := (nz_X12_turn_lo P1.2.1 _ _ y); omega)
  have hR2 : mz_sr g1 g2 := ⟨hf2 82 1 (nw_X12_turn_82 P1.2.1), hf2 137 15 (nw_X12_turn_15 P1.2.1), fun j => hf2 149 j (nw_X12_turn_149 P1.2.1 j), fun j => hf2 142 j (nw_X12_turn_142 P1.2.1 j), fun j hj => hf2 140 j (nw_X12_turn_140 P1.2.1 j hj)⟩
  have P2 := mz_Lq_r P1 hI2 hR2 hp2_0
  obtain ⟨hT2, hk2, hO2, hr0, hr2⟩ := RR_kp P.2.1 hW1 e2 (turn_k P.2.1 (RR_s T hS1)) hF2 T hM1
  show mm_W d mmL_law 578 [some (.ref 5000), some (.ref 0), some (.ref 137), some (.ref 179), some (.int (Int32.ofInt i)), some (.int (Int32.ofInt r1)), o6] [.int (Int32.ofInt r2)] (mz_mk g2 x1) Q
  refine mm_g2 sg_10 1 (pc1 := 580) (lo1 := [some (.ref 5000), some (.ref 0), some (.ref 137), some (.ref 179), some (.int (Int32.ofInt i)), some (.int (Int32.ofInt r1)), some (.int (Int32.ofInt r2))]) (st1 := []) (H1 := mz_mk g2 x1) rfl ?_
  refine mz_gt (tgt := 1388) (sg_10 _ _ rfl) rfl ?_
  exact kk g2 x1 _ _ (mz_nl_i _) (mz_nl_i _) P2 hT2
set_option maxHeartbeats 4000000 in
set_option maxRecDepth 100000 in
theorem law_11 {d : Nat} (hd : 15 ≤ d) {so : Option Nat} {L : Nat} (hL : L ≤ 3072) {i : Int} (h0 : 0 ≤ i) (h6 : i + 6 ≤ L) {o5 o6 : Option Value} (h5 : mz_nl o5) (h6_ : mz_nl o6) {g : mz_G} {x : mm_X} (P : mz_Lq so L i g x) (T : RR x g) {Q : (Option Value ⊕ Nat) → mm_H → Prop} (kk : ∀ g1 x1 p5 p6, mz_nl p5 → mz_nl p6 → mz_Lq so L (i + 6) g1 x1 → RR x1 g1 → mm_W d mmL_law 1388 [some (.ref 5000), some (.ref 0), some (.ref 137), some (.ref 179), some (.int (Int32.ofInt i)), p5, p6] [] (mz_mk g1 x1) Q) : mm_W d mmL_law 583 [some (.ref 5000), some (.ref 0), some (.ref 137), some (.ref 179), some (.int (Int32.ofInt i)), o5, o6] [] (mz_mk g x) Q := by
  refine mm_g2 sg_11 4 (pc1 := 588) (lo1 := [some (.ref 5000), some (.ref 0), some (.ref 137), some (.ref 179), some (.int (Int32.ofInt i)), o5, o6]) (st1 := [.int (Int32.ofInt 1), .int (Int32.ofInt i), .ref 5000, .ref 0]) (H1 := mz_mk g x) rfl ?_
  refine mz_iadd (sg_11 _ _ rfl) ?_
  refine mz_iaS (v := (g 5000 ((i + 1) : Int).toNat)) (sg_11 _ _ rfl) (sh_5000 _) (by omega) (by have h9 := P.2.2.2.2.1; omega) (by have h9 := P.2.2.2.2.1; omega) rfl ?_
  refine mm_g2 sg_11 3 (pc1 := 594) (lo1 := [some (.ref 5000), some (.ref 0), some (.ref 137), some (.ref 179), some (.int (Int32.ofInt i)), o5, o6]) (st1 := [.int (Int32.ofInt 2), .int (Int32.ofInt i), .ref 5000, .int (Int32.ofInt (g 5000 ((i + 1) : Int).toNat)), .ref 0]) (H1 := mz_mk g x) rfl ?_
  refine mz_iadd (sg_11 _ _ rfl) ?_
  refine mz_iaS (v := (g 5000 ((i + 2) : Int).toNat)) (sg_11 _ _ rfl) (sh_5000 _) (by omega) (by have h9 := P.2.2.2.2.1; omega) (by have h9 := P.2.2.2.2.1; omega) rfl ?_
  refine mm_g2 sg_11 3 (pc1 := 600) (lo1 := [some (.ref 5000), some (.ref 0), some (.ref 137), some (.ref 179), some (.int (Int32.ofInt i)), o5, o6]) (st1 := [.int (Int32.ofInt 3), .int (Int32.ofInt i), .ref 5000, .int (Int32.ofInt (g 5000 ((i + 2) : Int).toNat)), .int (Int32.ofInt (g 5000 ((i + 1) : Int).toNat)), .ref 0]) (H1 := mz_mk g x) rfl ?_
  refine mz_iadd (sg_11 _ _ rfl) ?_
  refine mz_iaS (v := (g 5000 ((i + 3) : Int).toNat)) (sg_11 _ _ rfl) (sh_5000 _) (by omega) (by have h9 := P.2.2.2.2.1; omega) (by have h9 := P.2.2.2.2.1; omega) rfl ?_
  refine mm_g2 sg_11 1 (pc1 := 603) (lo1 := [some (.ref 5000), some (.ref 0), some (.ref 137), some (.ref 179), some (.int (Int32.ofInt i)), o5, o6]) (st1 := [.ref 179, .int (Int32.ofInt (g 5000 ((i + 3) : Int).toNat)), .int (Int32.ofInt (g 5000 ((i + 2) : Int).toNat)), .int (Int32.ofInt (g 5000 ((i + 1) : Int).toNat)), .ref 0]) (H1 := mz_mk g x) rfl ?_
  refine mz_cs (sg_11 _ _ rfl) mt_13_137 (by decide) rfl (Nat.le_of_ble_eq_true rfl) (by omega) (w_L_pack (by omega) P.2.1 P.1 (mz_rd P.1 (bd_5000 _)).1 (mz_rd P.1 (bd_5000 _)).2 (mz_rd P.1 (bd_5000 _)).1 (mz_rd P.1 (bd_5000 _)).2 (mz_rd P.1 (bd_5000 _)).1 (mz_rd P.1 (bd_5000 _)).2 (fun r1 g1 x1 hI1 hX1 hS1 hW1 hM1 => ⟨_, rfl, ?_⟩))
  have P1 := mz_Lq_c P hI1 hS1 hX1
  show mm_W d mmL_law 606 [some (.ref 5000), some (.ref 0), some (.ref 137), some (.ref 179), some (.int (Int32.ofInt i)), o5, o6] [.int (Int32.ofInt r1)] (mz_mk g1 x1) Q
  refine mm_g2 sg_11 5 (pc1 := 613) (lo1 := [some (.ref 5000), some (.ref 0), some (.ref 137), some (.ref 179), some (.int (Int32.ofInt i)), some (.int (Int32.ofInt r1)), o6]) (st1 := [.int (Int32.ofInt 1), .int (Int32.ofInt i), .ref 5000, .ref 137]) (H1 := mz_mk g1 x1) rfl ?_
  refine mz_iadd (sg_11 _ _ rfl) ?_
  refine mz_iaS (v := (g1 5000 ((i + 1) : Int).toNat)) (sg_11 _ _ rfl) (sh_5000 _) (by omega) (by have h9 := P1.2.2.2.2.1; omega) (by have h9 := P1.2.2.2.2.1; omega) rfl ?_
  refine mm_g2 sg_11 3 (pc1 := 619) (lo1 := [some (.ref 5000), some (.ref 0), some (.ref 137), some (.ref 179), some (.int (Int32.ofInt i)), some (.int (Int32.ofInt r1)), o6]) (st1 := [.int (Int32.ofInt 2), .int (Int32.ofInt i), .ref 5000, .int (Int32.ofInt (g1 5000 ((i + 1) : Int).toNat)), .ref 137]) (H1 := mz_mk g1 x1) rfl ?_
  refine mz_iadd (sg_11 _ _ rfl) ?_
  refine mz_iaS (v := (g1 5000 ((i + 2) : Int).toNat)) (sg_11 _ _ rfl) (sh_5000 _) (by omega) (by have h9 := P1.2.2.2.2.1; omega) (by have h9 := P1.2.2.2.2.1; omega) rfl ?_
  refine mm_g2 sg_11 3 (pc1 := 625) (lo1 := [some (.ref 5000), some (.ref 0), some (.ref 137), some (.ref 179), some (.int (Int32.ofInt i)), some (.int (Int32.ofInt r1)), o6]) (st1 := [.int (Int32.ofInt 3), .int (Int32.ofInt i), .ref 5000, .int (Int32.ofInt (g1 5000 ((i + 2) : Int).toNat)), .int (Int32.ofInt (g1 5000 ((i + 1) : Int).toNat)), .ref 137]) (H1 := mz_mk g1 x1) rfl ?_
  refine mz_iadd (sg_11 _ _ rfl) ?_
  refine mz_iaS (v := (g1 5000 ((i + 3) : Int).toNat)) (sg_11 _ _ rfl) (sh_5000 _) (by omega) (by have h9 := P1.2.2.2.2.1; omega) (by have h9 := P1.2.2.2.2.1; omega) rfl ?_
  refine mz_cv (sg_11 _ _ rfl) mt_13_140 (by decide) rfl rfl (Nat.le_of_ble_eq_true rfl) (by omega) (f_X12_pack (by omega) P1.2.1 P1.1 (mz_rd P1.1 (bd_5000 _)).1 (mz_rd P1.1 (bd_5000 _)).2 (mz_rd P1.1 (bd_5000 _)).1 (mz_rd P1.1 (bd_5000 _)).2 (mz_rd P1.1 (bd_5000 _)).1 (mz_rd P1.1 (bd_5000 _)).2 P1.2.2.1.1 P1.2.2.1.2.1 (fun r2 g2 hI2 hf2 l_r2 u_r2 hp2_0 e2 => ⟨_, rfl, ?_⟩))
  have hq2 : ∀ j : Nat, g1 5000 j = g 5000 j := fun j => hS1 5000 j (by decide)
  rw [hq2, hq2, hq2] at e2
  have hF2 : ∀ a b : Nat, a < 137 ∨ 2000 ≤ a → g2 a b = g1 a b := fun a b z => hf2 a b (fun y => by have w := (nz_X12_pack_lo P1.2.1 _ _ y); omega)
  have hR2 : mz_sr g1 g2 := ⟨hf2 82 1 (nw_X12_pack_82 P1.2.1), hf2 137 15 (nw_X12_pack_15 P1.2.1), fun j => hf2 149 j (nw_X12_pack_149 P1.2.1 j), fun j => hf2 142 j (nw_X12_pack_142 P1.2.1 j), fun j hj => hf2 140 j (nw_X12_pack_140 P1.2.1 j hj)⟩
  have P2 := mz_Lq_r P1 hI2 hR2 hp2_0
  obtain ⟨hT2, hk2, hO2, hr0, hr2⟩ := RR_kp P.2.1 hW1 e2 (pack_k P.2.1 (RR_s T hS1)) hF2 T hM1
  show mm_W d mmL_law 630 [some (.ref 5000), some (.ref 0), some (.ref 137), some (.ref 179), some (.int (Int32.ofInt i)), some (.int (Int32.ofInt r1)), o6] [.int (Int32.ofInt r2)] (mz_mk g2 x1) Q
  refine mm_g2 sg_11 1 (pc1 := 632) (lo1 := [some (.ref 5000), some (.ref 0), some (.ref 137), some (.ref 179), some (.int (Int32.ofInt i)), some (.int (Int32.ofInt r1)), some (.int (Int32.ofInt r2))]) (st1 := []) (H1 := mz_mk g2 x1) rfl ?_
  refine mz_gt (tgt := 1388) (sg_11 _ _ rfl) rfl ?_
  exact kk g2 x1 _ _ (mz_nl_i _) (mz_nl_i _) P2 hT2
set_option maxHeartbeats 4000000 in
set_option maxRecDepth 100000 in
theorem law_12 {d : Nat} (hd : 5 ≤ d) {so : Option Nat} {L : Nat} (hL : L ≤ 3072) {i : Int} (h0 : 0 ≤ i) (h6 : i + 6 ≤ L) {o5 o6 : Option Value} (h5 : mz_nl o5) (h6_ : mz_nl o6) {g : mz_G} {x : mm_X} (P : mz_Lq so L i g x) (T : RR x g) {Q : (Option Value ⊕ Nat) → mm_H → Prop} (kk : ∀ g1 x1 p5 p6, mz_nl p5 → mz_nl p6 → mz_Lq so L (i + 6) g1 x1 → RR x1 g1 → mm_W d mmL_law 1388 [some (.ref 5000), some (.ref 0), some (.ref 137), some (.ref 179), some (.int (Int32.ofInt i)), p5, p6] [] (mz_mk g1 x1) Q) : mm_W d mmL_law 635 [some (.ref 5000), some (.ref 0), some (.ref 137), some (.ref 179), some (.int (Int32.ofInt i)), o5, o6] [] (mz_mk g x) Q := by
  refine mm_g2 sg_12 1 (pc1 := 636) (lo1 := [some (.ref 5000), some (.ref 0), some (.ref 137), some (.ref 179), some (.int (Int32.ofInt i)), o5, o6]) (st1 := [.ref 0]) (H1 := mz_mk g x) rfl ?_
  refine mz_cv (sg_12 _ _ rfl) mt_13_141 (by decide) rfl rfl (Nat.le_of_ble_eq_true rfl) (by omega) (f_X11_undo (by omega) P.2.1 P.1 (fun r1 g1 hI1 hf1 l_r1 u_r1 e1 => ⟨_, rfl, ?_⟩))
  have hS1 : ∀ k j : Nat, 137 ≤ k → g1 k j = g k j := fun k j hk => hf1 k j (nw_X11_undo_137 P.2.1 k j hk)
  have P1 := mz_Lq_c P hI1 hS1 (mz_xx_rf P.2.1)
  show mm_W d mmL_law 639 [some (.ref 5000), some (.ref 0), some (.ref 137), some (.ref 179), some (.int (Int32.ofInt i)), o5, o6] [.int (Int32.ofInt r1)] (mz_mk g1 x) Q
  refine mm_g2 sg_12 2 (pc1 := 641) (lo1 := [some (.ref 5000), some (.ref 0), some (.ref 137), some (.ref 179), some (.int (Int32.ofInt i)), o5, o6]) (st1 := [.ref 137]) (H1 := mz_mk g1 x) rfl ?_
  refine mz_cv (sg_12 _ _ rfl) mt_13_144 (by decide) rfl rfl (Nat.le_of_ble_eq_true rfl) (by omega) (f_X12_undo (by omega) P1.2.1 P1.1 P1.2.2.1.1 P1.2.2.1.2.1 (fun r2 g2 hI2 hf2 l_r2 u_r2 hp2_0 e2 => ⟨_, rfl, ?_⟩))
  have hF2 : ∀ a b : Nat, a < 137 ∨ 2000 ≤ a → g2 a b = g1 a b := fun a b z => hf2 a b (fun y => by have w := (nz_X12_undo_lo P1.2.1 _ _ y); omega)
  have hR2 : mz_sr g1 g2 := ⟨hf2 82 1 (nw_X12_undo_82 P1.2.1), hf2 137 15 (nw_X12_undo_15 P1.2.1), fun j => hf2 149 j (nw_X12_undo_149 P1.2.1 j), fun j => hf2 142 j (nw_X12_undo_142 P1.2.1 j), fun j hj => hf2 140 j (nw_X12_undo_140 P1.2.1 j hj)⟩
  have P2 := mz_Lq_r P1 hI2 hR2 hp2_0
  obtain ⟨hT2, hE⟩ := RR_kq P.2.1 e1 e2 (undo_k P.2.1 (RR_s T hS1)) hF2 T (fun a b z1 z2 => hf1 a b (fun y => (nz_X11_undo_ld P.2.1 _ _ y) ⟨z1, z2⟩))
  show mm_W d mmL_law 644 [some (.ref 5000), some (.ref 0), some (.ref 137), some (.ref 179), some (.int (Int32.ofInt i)), o5, o6] [.int (Int32.ofInt r2)] (mz_mk g2 x) Q
  refine mm_g2 sg_12 1 (pc1 := 645) (lo1 := [some (.ref 5000), some (.ref 0), some (.ref 137), some (.ref 179), some (.int (Int32.ofInt i)), o5, o6]) (st1 := []) (H1 := mz_mk g2 x) rfl ?_
  refine mz_gt (tgt := 1388) (sg_12 _ _ rfl) rfl ?_
  exact kk g2 x _ _ h5 h6_ P2 hT2
set_option maxHeartbeats 4000000 in
set_option maxRecDepth 100000 in
theorem law_13 {d : Nat} (hd : 18 ≤ d) {so : Option Nat} {L : Nat} (hL : L ≤ 3072) {i : Int} (h0 : 0 ≤ i) (h6 : i + 6 ≤ L) {o5 o6 : Option Value} (h5 : mz_nl o5) (h6_ : mz_nl o6) {g : mz_G} {x : mm_X} (P : mz_Lq so L i g x) (T : RR x g) {Q : (Option Value ⊕ Nat) → mm_H → Prop} (kk : ∀ g1 x1 p5 p6, mz_nl p5 → mz_nl p6 → mz_Lq so L (i + 6) g1 x1 → RR x1 g1 → mm_W d mmL_law 1388 [some (.ref 5000), some (.ref 0), some (.ref 137), some (.ref 179), some (.int (Int32.ofInt i)), p5, p6] [] (mz_mk g1 x1) Q) : mm_W d mmL_law 648 [some (.ref 5000), some (.ref 0), some (.ref 137), some (.ref 179), some (.int (Int32.ofInt i)), o5, o6] [] (mz_mk g x) Q := by
  refine mm_g2 sg_13 4 (pc1 := 653) (lo1 := [some (.ref 5000), some (.ref 0), some (.ref 137), some (.ref 179), some (.int (Int32.ofInt i)), o5, o6]) (st1 := [.int (Int32.ofInt 1), .int (Int32.ofInt i), .ref 5000, .ref 0]) (H1 := mz_mk g x) rfl ?_
  refine mz_iadd (sg_13 _ _ rfl) ?_
  refine mz_iaS (v := (g 5000 ((i + 1) : Int).toNat)) (sg_13 _ _ rfl) (sh_5000 _) (by omega) (by have h9 := P.2.2.2.2.1; omega) (by have h9 := P.2.2.2.2.1; omega) rfl ?_
  refine mm_g2 sg_13 3 (pc1 := 659) (lo1 := [some (.ref 5000), some (.ref 0), some (.ref 137), some (.ref 179), some (.int (Int32.ofInt i)), o5, o6]) (st1 := [.int (Int32.ofInt 2), .int (Int32.ofInt i), .ref 5000, .int (Int32.ofInt (g 5000 ((i + 1) : Int).toNat)), .ref 0]) (H1 := mz_mk g x) rfl ?_
  refine mz_iadd (sg_13 _ _ rfl) ?_
  refine mz_iaS (v := (g 5000 ((i + 2) : Int).toNat)) (sg_13 _ _ rfl) (sh_5000 _) (by omega) (by have h9 := P.2.2.2.2.1; omega) (by have h9 := P.2.2.2.2.1; omega) rfl ?_
  refine mm_g2 sg_13 3 (pc1 := 665) (lo1 := [some (.ref 5000), some (.ref 0), some (.ref 137), some (.ref 179), some (.int (Int32.ofInt i)), o5, o6]) (st1 := [.int (Int32.ofInt 3), .int (Int32.ofInt i), .ref 5000, .int (Int32.ofInt (g 5000 ((i + 2) : Int).toNat)), .int (Int32.ofInt (g 5000 ((i + 1) : Int).toNat)), .ref 0]) (H1 := mz_mk g x) rfl ?_
  refine mz_iadd (sg_13 _ _ rfl) ?_
  refine mz_iaS (v := (g 5000 ((i + 3) : Int).toNat)) (sg_13 _ _ rfl) (sh_5000 _) (by omega) (by have h9 := P.2.2.2.2.1; omega) (by have h9 := P.2.2.2.2.1; omega) rfl ?_
  refine mm_g2 sg_13 1 (pc1 := 668) (lo1 := [some (.ref 5000), some (.ref 0), some (.ref 137), some (.ref 179), some (.int (Int32.ofInt i)), o5, o6]) (st1 := [.ref 179, .int (Int32.ofInt (g 5000 ((i + 3) : Int).toNat)), .int (Int32.ofInt (g 5000 ((i + 2) : Int).toNat)), .int (Int32.ofInt (g 5000 ((i + 1) : Int).toNat)), .ref 0]) (H1 := mz_mk g x) rfl ?_
  refine mz_cs (sg_13 _ _ rfl) mt_13_145 (by decide) rfl (Nat.le_of_ble_eq_true rfl) (by omega) (w_L_then (by omega) P.2.1 P.1 (mz_rd P.1 (bd_5000 _)).1 (mz_rd P.1 (bd_5000 _)).2 (mz_rd P.1 (bd_5000 _)).1 (mz_rd P.1 (bd_5000 _)).2 (mz_rd P.1 (bd_5000 _)).1 (mz_rd P.1 (bd_5000 _)).2 (fun r1 g1 x1 hI1 hX1 hS1 hW1 hN1 => ⟨_, rfl, ?_⟩))
  have P1 := mz_Lq_c P hI1 hS1 hX1
  have hT1 : RR x1 g1 := RR_q P.2.1 T hS1 hN1 hW1.2.2.2.1
  show mm_W d mmL_law 671 [some (.ref 5000), some (.ref 0), some (.ref 137), some (.ref 179), some (.int (Int32.ofInt i)), o5, o6] [.int (Int32.ofInt r1)] (mz_mk g1 x1) Q
  refine mm_g2 sg_13 5 (pc1 := 678) (lo1 := [some (.ref 5000), some (.ref 0), some (.ref 137), some (.ref 179), some (.int (Int32.ofInt i)), some (.int (Int32.ofInt r1)), o6]) (st1 := [.int (Int32.ofInt 1), .int (Int32.ofInt i), .ref 5000, .ref 137]) (H1 := mz_mk g1 x1) rfl ?_
  refine mz_iadd (sg_13 _ _ rfl) ?_
  refine mz_iaS (v := (g1 5000 ((i + 1) : Int).toNat)) (sg_13 _ _ rfl) (sh_5000 _) (by omega) (by have h9 := P1.2.2.2.2.1; omega) (by have h9 := P1.2.2.2.2.1; omega) rfl ?_
  refine mm_g2 sg_13 3 (pc1 := 684) (lo1 := [some (.ref 5000), some (.ref 0), some (.ref 137), some (.ref 179), some (.int (Int32.ofInt i)), some (.int (Int32.ofInt r1)), o6]) (st1 := [.int (Int32.ofInt 2), .int (Int32.ofInt i), .ref 5000, .int (Int32.ofInt (g1 5000 ((i + 1) : Int).toNat)), .ref 137]) (H1 := mz_mk g1 x1) rfl ?_
  refine mz_iadd (sg_13 _ _ rfl) ?_
  refine mz_iaS (v := (g1 5000 ((i + 2) : Int).toNat)) (sg_13 _ _ rfl) (sh_5000 _) (by omega) (by have h9 := P1.2.2.2.2.1; omega) (by have h9 := P1.2.2.2.2.1; omega) rfl ?_
  refine mm_g2 sg_13 3 (pc1 := 690) (lo1 := [some (.ref 5000), some (.ref 0), some (.ref 137), some (.ref 179), some (.int (Int32.ofInt i)), some (.int (Int32.ofInt r1)), o6]) (st1 := [.int (Int32.ofInt 3), .int (Int32.ofInt i), .ref 5000, .int (Int32.ofInt (g1 5000 ((i + 2) : Int).toNat)), .int (Int32.ofInt (g1 5000 ((i + 1) : Int).toNat)), .ref 137]) (H1 := mz_mk g1 x1) rfl ?_
  refine mz_iadd (sg_13 _ _ rfl) ?_
  refine mz_iaS (v := (g1 5000 ((i + 3) : Int).toNat)) (sg_13 _ _ rfl) (sh_5000 _) (by omega) (by have h9 := P1.2.2.2.2.1; omega) (by have h9 := P1.2.2.2.2.1; omega) rfl ?_
  refine mz_cv (sg_13 _ _ rfl) mt_13_147 (by decide) rfl rfl (Nat.le_of_ble_eq_true rfl) (by omega) (f_X12_then (by omega) P1.2.1 P1.1 (mz_rd P1.1 (bd_5000 _)).1 (mz_rd P1.1 (bd_5000 _)).2 (mz_rd P1.1 (bd_5000 _)).1 (mz_rd P1.1 (bd_5000 _)).2 (mz_rd P1.1 (bd_5000 _)).1 (mz_rd P1.1 (bd_5000 _)).2 P1.2.2.1.1 P1.2.2.1.2.1 (fun r2 g2 hI2 hf2 l_r2 u_r2 hp2_0 e2 => ⟨_, rfl, ?_⟩))
  have hF2 : ∀ a b : Nat, a < 137 ∨ 2000 ≤ a → g2 a b = g1 a b := fun a b z => hf2 a b (fun y => by have w := (nz_X12_then_lo P1.2.1 _ _ y); omega)
  have hR2 : mz_sr g1 g2 := ⟨hf2 82 1 (nw_X12_then_82 P1.2.1), hf2 137 15 (nw_X12_then_15 P1.2.1), fun j => hf2 149 j (nw_X12_then_149 P1.2.1 j), fun j => hf2 142 j (nw_X12_then_142 P1.2.1 j), fun j hj => hf2 140 j (nw_X12_then_140 P1.2.1 j hj)⟩
  have P2 := mz_Lq_r P1 hI2 hR2 hp2_0
  have hT2 := RR_r P1.2.1 hT1 hF2 (fun a b z z1 z2 => hf2 a b (fun y => (nz_X12_then_nb5 P1.2.1 _ _ y).elim z (fun w => w.elim z1 z2))) (sm_e e2 (then_s (x := x1) P1.2.1 P1.1 (kr_P P1.1 P1.2.2.1) P1.2.2.1.2.1))
  show mm_W d mmL_law 695 [some (.ref 5000), some (.ref 0), some (.ref 137), some (.ref 179), some (.int (Int32.ofInt i)), some (.int (Int32.ofInt r1)), o6] [.int (Int32.ofInt r2)] (mz_mk g2 x1) Q
  refine mm_g2 sg_13 1 (pc1 := 697) (lo1 := [some (.ref 5000), some (.ref 0), some (.ref 137), some (.ref 179), some (.int (Int32.ofInt i)), some (.int (Int32.ofInt r1)), some (.int (Int32.ofInt r2))]) (st1 := []) (H1 := mz_mk g2 x1) rfl ?_
  refine mz_gt (tgt := 1388) (sg_13 _ _ rfl) rfl ?_
  exact kk g2 x1 _ _ (mz_nl_i _) (mz_nl_i _) P2 hT2
set_option maxHeartbeats 4000000 in
set_option maxRecDepth 100000 in
theorem law_14 {d : Nat} (hd : 18 ≤ d) {so : Option Nat} {L : Nat} (hL : L ≤ 3072) {i : Int} (h0 : 0 ≤ i) (h6 : i + 6 ≤ L) {o5 o6 : Option Value} (h5 : mz_nl o5) (h6_ : mz_nl o6) {g : mz_G} {x : mm_X} (P : mz_Lq so L i g x) (T : RR x g) {Q : (Option Value ⊕ Nat) → mm_H → Prop} (kk : ∀ g1 x1 p5 p6, mz_nl p5 → mz_nl p6 → mz_Lq so L (i + 6) g1 x1 → RR x1 g1 → mm_W d mmL_law 1388 [some (.ref 5000), some (.ref 0), some (.ref 137), some (.ref 179), some (.int (Int32.ofInt i)), p5, p6] [] (mz_mk g1 x1) Q) : mm_W d mmL_law 700 [some (.ref 5000), some (.ref 0), some (.ref 137), some (.ref 179), some (.int (Int32.ofInt i)), o5, o6] [] (mz_mk g x) Q := by
  refine mm_g2 sg_14 4 (pc1 := 705) (lo1 := [some (.ref 5000), some (.ref 0), some (.ref 137), some (.ref 179), some (.int (Int32.ofInt i)), o5, o6]) (st1 := [.int (Int32.ofInt 1), .int (Int32.ofInt i), .ref 5000, .ref 0]) (H1 := mz_mk g x) rfl ?_
  refine mz_iadd (sg_14 _ _ rfl) ?_
  refine mz_iaS (v := (g 5000 ((i + 1) : Int).toNat)) (sg_14 _ _ rfl) (sh_5000 _) (by omega) (by have h9 := P.2.2.2.2.1; omega) (by have h9 := P.2.2.2.2.1; omega) rfl ?_
  refine mm_g2 sg_14 3 (pc1 := 711) (lo1 := [some (.ref 5000), some (.ref 0), some (.ref 137), some (.ref 179), some (.int (Int32.ofInt i)), o5, o6]) (st1 := [.int (Int32.ofInt 2), .int (Int32.ofInt i), .ref 5000, .int (Int32.ofInt (g 5000 ((i + 1) : Int).toNat)), .ref 0]) (H1 := mz_mk g x) rfl ?_
  refine mz_iadd (sg_14 _ _ rfl) ?_
  refine mz_iaS (v := (g 5000 ((i + 2) : Int).toNat)) (sg_14 _ _ rfl) (sh_5000 _) (by omega) (by have h9 := P.2.2.2.2.1; omega) (by have h9 := P.2.2.2.2.1; omega) rfl ?_
  refine mm_g2 sg_14 3 (pc1 := 717) (lo1 := [some (.ref 5000), some (.ref 0), some (.ref 137), some (.ref 179), some (.int (Int32.ofInt i)), o5, o6]) (st1 := [.int (Int32.ofInt 3), .int (Int32.ofInt i), .ref 5000, .int (Int32.ofInt (g 5000 ((i + 2) : Int).toNat)), .int (Int32.ofInt (g 5000 ((i + 1) : Int).toNat)), .ref 0]) (H1 := mz_mk g x) rfl ?_
  refine mz_iadd (sg_14 _ _ rfl) ?_
  refine mz_iaS (v := (g 5000 ((i + 3) : Int).toNat)) (sg_14 _ _ rfl) (sh_5000 _) (by omega) (by have h9 := P.2.2.2.2.1; omega) (by have h9 := P.2.2.2.2.1; omega) rfl ?_
  refine mm_g2 sg_14 1 (pc1 := 720) (lo1 := [some (.ref 5000), some (.ref 0), some (.ref 137), some (.ref 179), some (.int (Int32.ofInt i)), o5, o6]) (st1 := [.ref 179, .int (Int32.ofInt (g 5000 ((i + 3) : Int).toNat)), .int (Int32.ofInt (g 5000 ((i + 2) : Int).toNat)), .int (Int32.ofInt (g 5000 ((i + 1) : Int).toNat)), .ref 0]) (H1 := mz_mk g x) rfl ?_
  refine mz_cs (sg_14 _ _ rfl) mt_13_148 (by decide) rfl (Nat.le_of_ble_eq_true rfl) (by omega) (w_L_blend (by omega) P.2.1 P.1 (mz_rd P.1 (bd_5000 _)).1 (mz_rd P.1 (bd_5000 _)).2 (mz_rd P.1 (bd_5000 _)).1 (mz_rd P.1 (bd_5000 _)).2 (mz_rd P.1 (bd_5000 _)).1 (mz_rd P.1 (bd_5000 _)).2 (fun r1 g1 x1 hI1 hX1 hS1 hW1 hN1 => ⟨_, rfl, ?_⟩))
  have P1 := mz_Lq_c P hI1 hS1 hX1
  have hT1 : RR x1 g1 := RR_q P.2.1 T hS1 hN1 hW1.2.2.2.1
  show mm_W d mmL_law 723 [some (.ref 5000), some (.ref 0), some (.ref 137), some (.ref 179), some (.int (Int32.ofInt i)), o5, o6] [.int (Int32.ofInt r1)] (mz_mk g1 x1) Q
  refine mm_g2 sg_14 5 (pc1 := 730) (lo1 := [some (.ref 5000), some (.ref 0), some (.ref 137), some (.ref 179), some (.int (Int32.ofInt i)), some (.int (Int32.ofInt r1)), o6]) (st1 := [.int (Int32.ofInt 1), .int (Int32.ofInt i), .ref 5000, .ref 137]) (H1 := mz_mk g1 x1) rfl ?_
  refine mz_iadd (sg_14 _ _ rfl) ?_
  refine mz_iaS (v := (g1 5000 ((i + 1) : Int).toNat)) (sg_14 _ _ rfl) (sh_5000 _) (by omega) (by have h9 := P1.2.2.2.2.1; omega) (by have h9 := P1.2.2.2.2.1; omega) rfl ?_
  refine mm_g2 sg_14 3 (pc1 := 736) (lo1 := [some (.ref 5000), some (.ref 0), some (.ref 137), some (.ref 179), some (.int (Int32.ofInt i)), some (.int (Int32.ofInt r1)), o6]) (st1 := [.int (Int32.ofInt 2), .int (Int32.ofInt i), .ref 5000, .int (Int32.ofInt (g1 5000 ((i + 1) : Int).toNat)), .ref 137]) (H1 := mz_mk g1 x1) rfl ?_
  refine mz_iadd (sg_14 _ _ rfl) ?_
  refine mz_iaS (v := (g1 5000 ((i + 2) : Int).toNat)) (sg_14 _ _ rfl) (sh_5000 _) (by omega) (by have h9 := P1.2.2.2.2.1; omega) (by have h9 := P1.2.2.2.2.1; omega) rfl ?_
  refine mm_g2 sg_14 3 (pc1 := 742) (lo1 := [some (.ref 5000), some (.ref 0), some (.ref 137), some (.ref 179), some (.int (Int32.ofInt i)), some (.int (Int32.ofInt r1)), o6]) (st1 := [.int (Int32.ofInt 3), .int (Int32.ofInt i), .ref 5000, .int (Int32.ofInt (g1 5000 ((i + 2) : Int).toNat)), .int (Int32.ofInt (g1 5000 ((i + 1) : Int).toNat)), .ref 137]) (H1 := mz_mk g1 x1) rfl ?_
  refine mz_iadd (sg_14 _ _ rfl) ?_
  refine mz_iaS (v := (g1 5000 ((i + 3) : Int).toNat)) (sg_14 _ _ rfl) (sh_5000 _) (by omega) (by have h9 := P1.2.2.2.2.1; omega) (by have h9 := P1.2.2.2.2.1; omega) rfl ?_
  refine mz_cv (sg_14 _ _ rfl) mt_13_150 (by decide) rfl rfl (Nat.le_of_ble_eq_true rfl) (by omega) (f_X12_blend (by omega) P1.2.1 P1.1 (mz_rd P1.1 (bd_5000 _)).1 (mz_rd P1.1 (bd_5000 _)).2 (mz_rd P1.1 (bd_5000 _)).1 (mz_rd P1.1 (bd_5000 _)).2 (mz_rd P1.1 (bd_5000 _)).1 (mz_rd P1.1 (bd_5000 _)).2 P1.2.2.1.1 P1.2.2.1.2.1 (fun r2 g2 hI2 hf2 l_r2 u_r2 hp2_0 e2 => ⟨_, rfl, ?_⟩))
  have hF2 : ∀ a b : Nat, a < 137 ∨ 2000 ≤ a → g2 a b = g1 a b := fun a b z => hf2 a b (fun y => by have w := (nz_X12_blend_lo P1.2.1 _ _ y); omega)
  have hR2 : mz_sr g1 g2 := ⟨hf2 82 1 (nw_X12_blend_82 P1.2.1), hf2 137 15 (nw_X12_blend_15 P1.2.1), fun j => hf2 149 j (nw_X12_blend_149 P1.2.1 j), fun j => hf2 142 j (nw_X12_blend_142 P1.2.1 j), fun j hj => hf2 140 j (nw_X12_blend_140 P1.2.1 j hj)⟩
  have P2 := mz_Lq_r P1 hI2 hR2 hp2_0
  have hT2 := RR_r P1.2.1 hT1 hF2 (fun a b z z1 z2 => hf2 a b (fun y => (nz_X12_blend_nb5 P1.2.1 _ _ y).elim z (fun w => w.elim z1 z2))) (sm_e e2 (blend_s (x := x1) P1.2.1 P1.1 (kr_P P1.1 P1.2.2.1) P1.2.2.1.2.1))
  show mm_W d mmL_law 747 [some (.ref 5000), some (.ref 0), some (.ref 137), some (.ref 179), some (.int (Int32.ofInt i)), some (.int (Int32.ofInt r1)), o6] [.int (Int32.ofInt r2)] (mz_mk g2 x1) Q
  refine mm_g2 sg_14 1 (pc1 := 749) (lo1 := [some (.ref 5000), some (.ref 0), some (.ref 137), some (.ref 179), some (.int (Int32.ofInt i)), some (.int (Int32.ofInt r1)), some (.int (Int32.ofInt r2))]) (st1 := []) (H1 := mz_mk g2 x1) rfl ?_
  refine mz_gt (tgt := 1388) (sg_14 _ _ rfl) rfl ?_
  exact kk g2 x1 _ _ (mz_nl_i _) (mz_nl_i _) P2 hT2
set_option maxHeartbeats 4000000 in
set_option maxRecDepth 100000 in
theorem law_15 {d : Nat} (hd : 18 ≤ d) {so : Option Nat} {L : Nat} (hL : L ≤ 3072) {i : Int} (h0 : 0 ≤ i) (h6 : i + 6 ≤ L) {o5 o6 : Option Value} (h5 : mz_nl o5) (h6_ : mz_nl o6) {g : mz_G} {x : mm_X} (P : mz_Lq so L i g x) (T : RR x g) {Q : (Option Value ⊕ Nat) → mm_H → Prop} (kk : ∀ g1 x1 p5 p6, mz_nl p5 → mz_nl p6 → mz_Lq so L (i + 6) g1 x1 → RR x1 g1 → mm_W d mmL_law 1388 [some (.ref 5000), some (.ref 0), some (.ref 137), some (.ref 179), some (.int (Int32.ofInt i)), p5, p6] [] (mz_mk g1 x1) Q) : mm_W d mmL_law 752 [some (.ref 5000), some (.ref 0), some (.ref 137), some (.ref 179), some (.int (Int32.ofInt i)), o5, o6] [] (mz_mk g x) Q := by
  refine mm_g2 sg_15 4 (pc1 := 757) (lo1 := [some (.ref 5000), some (.ref 0), some (.ref 137), some (.ref 179), some (.int (Int32.ofInt i)), o5, o6]) (st1 := [.int (Int32.ofInt 1), .int (Int32.ofInt i), .ref 5000, .ref 0]) (H1 := mz_mk g x) rfl ?_
  refine mz_iadd (sg_15 _ _ rfl) ?_
  refine mz_iaS (v := (g 5000 ((i + 1) : Int).toNat)) (sg_15 _ _ rfl) (sh_5000 _) (by omega) (by have h9 := P.2.2.2.2.1; omega) (by have h9 := P.2.2.2.2.1; omega) rfl ?_
  refine mm_g2 sg_15 3 (pc1 := 763) (lo1 := [some (.ref 5000), some (.ref 0), some (.ref 137), some (.ref 179), some (.int (Int32.ofInt i)), o5, o6]) (st1 := [.int (Int32.ofInt 2), .int (Int32.ofInt i), .ref 5000, .int (Int32.ofInt (g 5000 ((i + 1) : Int).toNat)), .ref 0]) (H1 := mz_mk g x) rfl ?_
  refine mz_iadd (sg_15 _ _ rfl) ?_
  refine mz_iaS (v := (g 5000 ((i + 2) : Int).toNat)) (sg_15 _ _ rfl) (sh_5000 _) (by omega) (by have h9 := P.2.2.2.2.1; omega) (by have h9 := P.2.2.2.2.1; omega) rfl ?_
  refine mm_g2 sg_15 1 (pc1 := 766) (lo1 := [some (.ref 5000), some (.ref 0), some (.ref 137), some (.ref 179), some (.int (Int32.ofInt i)), o5, o6]) (st1 := [.ref 179, .int (Int32.ofInt (g 5000 ((i + 2) : Int).toNat)), .int (Int32.ofInt (g 5000 ((i + 1) : Int).toNat)), .ref 0]) (H1 := mz_mk g x) rfl ?_
  refine mz_cs (sg_15 _ _ rfl) mt_13_151 (by decide) rfl (Nat.le_of_ble_eq_true rfl) (by omega) (w_L_later (by omega) P.2.1 P.1 (mz_rd P.1 (bd_5000 _)).1 (mz_rd P.1 (bd_5000 _)).2 (mz_rd P.1 (bd_5000 _)).1 (mz_rd P.1 (bd_5000 _)).2 (fun r1 g1 x1 hI1 hX1 hS1 hW1 hN1 => ⟨_, rfl, ?_⟩))
  have P1 := mz_Lq_c P hI1 hS1 hX1
  have hT1 : RR x1 g1 := RR_q P.2.1 T hS1 hN1 hW1.2.2.2.1
  show mm_W d mmL_law 769 [some (.ref 5000), some (.ref 0), some (.ref 137), some (.ref 179), some (.int (Int32.ofInt i)), o5, o6] [.int (Int32.ofInt r1)] (mz_mk g1 x1) Q
  refine mm_g2 sg_15 5 (pc1 := 776) (lo1 := [some (.ref 5000), some (.ref 0), some (.ref 137), some (.ref 179), some (.int (Int32.ofInt i)), some (.int (Int32.ofInt r1)), o6]) (st1 := [.int (Int32.ofInt 1), .int (Int32.ofInt i), .ref 5000, .ref 137]) (H1 := mz_mk g1 x1) rfl ?_
  refine mz_iadd (sg_15 _ _ rfl) ?_
  refine mz_iaS (v := (g1 5000 ((i + 1) : Int).toNat)) (sg_15 _ _ rfl) (sh_5000 _) (by omega) (by have h9 := P1.2.2.2.2.1; omega) (by have h9 := P1.2.2.2.2.1; omega) rfl ?_
  refine mm_g2 sg_15 3 (pc1 := 782) (lo1 := [some (.ref 5000), some (.ref 0), some (.ref 137), some (.ref 179), some (.int (Int32.ofInt i)), some (.int (Int32.ofInt r1)), o6]) (st1 := [.int (Int32.ofInt 2), .int (Int32.ofInt i), .ref 5000, .int (Int32.ofInt (g1 5000 ((i + 1) : Int).toNat)), .ref 137]) (H1 := mz_mk g1 x1) rfl ?_
  refine mz_iadd (sg_15 _ _ rfl) ?_
  refine mz_iaS (v := (g1 5000 ((i + 2) : Int).toNat)) (sg_15 _ _ rfl) (sh_5000 _) (by omega) (by have h9 := P1.2.2.2.2.1; omega) (by have h9 := P1.2.2.2.2.1; omega) rfl ?_
  refine mz_cv (sg_15 _ _ rfl) mt_13_153 (by decide) rfl rfl (Nat.le_of_ble_eq_true rfl) (by omega) (f_X12_later (by omega) P1.2.1 P1.1 (mz_rd P1.1 (bd_5000 _)).1 (mz_rd P1.1 (bd_5000 _)).2 (mz_rd P1.1 (bd_5000 _)).1 (mz_rd P1.1 (bd_5000 _)).2 P1.2.2.1.1 P1.2.2.1.2.1 (fun r2 g2 hI2 hf2 l_r2 u_r2 hp2_0 e2 => ⟨_, rfl, ?_⟩))
  have hF2 : ∀ a b : Nat, a < 137 ∨ 2000 ≤ a → g2 a b = g1 a b := fun a b z => hf2 a b (fun y => by have w := (nz_X12_later_lo P1.2.1 _ _ y); omega)
  have hR2 : mz_sr g1 g2 := ⟨hf2 82 1 (nw_X12_later_82 P1.2.1), hf2 137 15 (nw_X12_later_15 P1.2.1), fun j => hf2 149 j (nw_X12_later_149 P1.2.1 j), fun j => hf2 142 j (nw_X12_later_142 P1.2.1 j), fun j hj => hf2 140 j (nw_X12_later_140 P1.2.1 j hj)⟩
  have P2 := mz_Lq_r P1 hI2 hR2 hp2_0
  have hT2 := RR_r P1.2.1 hT1 hF2 (fun a b z z1 z2 => hf2 a b (fun y => (nz_X12_later_nb5 P1.2.1 _ _ y).elim z (fun w => w.elim z1 z2))) (sm_e e2 (later_s (kr_P P1.1 P1.2.2.1)))
  show mm_W d mmL_law 787 [some (.ref 5000), some (.ref 0), some (.ref 137), some (.ref 179), some (.int (Int32.ofInt i)), some (.int (Int32.ofInt r1)), o6] [.int (Int32.ofInt r2)] (mz_mk g2 x1) Q
  refine mm_g2 sg_15 1 (pc1 := 789) (lo1 := [some (.ref 5000), some (.ref 0), some (.ref 137), some (.ref 179), some (.int (Int32.ofInt i)), some (.int (Int32.ofInt r1)), some (.int (Int32.ofInt r2))]) (st1 := []) (H1 := mz_mk g2 x1) rfl ?_
  refine mz_gt (tgt := 1388) (sg_15 _ _ rfl) rfl ?_
  exact kk g2 x1 _ _ (mz_nl_i _) (mz_nl_i _) P2 hT2
