/-! EXACT: the reference (wip/p2/tools/gen50.py) -/
theorem nj_75 {p1 p2 : Prop} : ¬ (((145 : Nat) = 137 ∧ p1) ∨ ((145 : Nat) = 137 ∧ p2)) := (fun h => (Or.elim h (fun h => (absurd (show 145 = 137 from (h).1) (by decide))) (fun h => (absurd (show 145 = 137 from (h).1) (by decide)))))
theorem nj_76 {p1 p2 : Prop} : ¬ (((146 : Nat) = 137 ∧ p1) ∨ ((146 : Nat) = 137 ∧ p2)) := (fun h => (Or.elim h (fun h => (absurd (show 146 = 137 from (h).1) (by decide))) (fun h => (absurd (show 146 = 137 from (h).1) (by decide)))))
theorem nj_77 {p1 : Prop} : ¬ (((137 : Nat) = 137 ∧ (17 : Nat) = 16) ∨ ((137 : Nat) = 137 ∧ (17 : Nat) = 20) ∨ ((137 : Nat) = 137 ∧ (17 : Nat) = 18) ∨ ((137 : Nat) = 137 ∧ (17 : Nat) = 21) ∨ ((137 : Nat) = 137 ∧ (17 : Nat) = 19) ∨ ((137 : Nat) = 137 ∧ (17 : Nat) = 22) ∨ ((137 : Nat) = 137 ∧ (17 : Nat) = 23) ∨ (137 : Nat) = 141 ∨ (137 : Nat) = 142 ∨ (137 : Nat) = 143 ∨ ((137 : Nat) = 140 ∧ p1)) := (fun h => (Or.elim h (fun h => (absurd (show (137 = 137 ∧ 17 = 16) from h) (by decide))) (fun h => (Or.elim h (fun h => (absurd (show (137 = 137 ∧ 17 = 20) from h) (by decide))) (fun h => (Or.elim h (fun h => (absurd (show (137 = 137 ∧ 17 = 18) from h) (by decide))) (fun h => (Or.elim h (fun h => (absurd (show (137 = 137 ∧ 17 = 21) from h) (by decide))) (fun h => (Or.elim h (fun h => (absurd (show (137 = 137 ∧ 17 = 19) from h) (by decide))) (fun h => (Or.elim h (fun h => (absurd (show (137 = 137 ∧ 17 = 22) from h) (by decide))) (fun h => (Or.elim h (fun h => (absurd (show (137 = 137 ∧ 17 = 23) from h) (by decide))) (fun h => (Or.elim h (fun h => (absurd (show 137 = 141 from h) (by decide))) (fun h => (Or.elim h (fun h => (absurd (show 137 = 142 from h) (by decide))) (fun h => (Or.elim h (fun h => (absurd (show 137 = 143 from h) (by decide))) (fun h => (absurd (show 137 = 140 from (h).1) (by decide)))))))))))))))))))))))
theorem nj_78 {p1 p2 p3 p4 p5 p6 p7 : Prop} : ¬ (((140 : Nat) = 137 ∧ p1) ∨ ((140 : Nat) = 137 ∧ p2) ∨ ((140 : Nat) = 137 ∧ p3) ∨ ((140 : Nat) = 137 ∧ p4) ∨ ((140 : Nat) = 137 ∧ p5) ∨ ((140 : Nat) = 137 ∧ p6) ∨ ((140 : Nat) = 137 ∧ p7) ∨ (140 : Nat) = 141 ∨ (140 : Nat) = 142 ∨ (140 : Nat) = 143 ∨ ((140 : Nat) = 140 ∧ (5 : Nat) = 4)) := (fun h => (Or.elim h (fun h => (absurd (show 140 = 137 from (h).1) (by decide))) (fun h => (Or.elim h (fun h => (absurd (show 140 = 137 from (h).1) (by decide))) (fun h => (Or.elim h (fun h => (absurd (show 140 = 137 from (h).1) (by decide))) (fun h => (Or.elim h (fun h => (absurd (show 140 = 137 from (h).1) (by decide))) (fun h => (Or.elim h (fun h => (absurd (show 140 = 137 from (h).1) (by decide))) (fun h => (Or.elim h (fun h => (absurd (show 140 = 137 from (h).1) (by decide))) (fun h => (Or.elim h (fun h => (absurd (show 140 = 137 from (h).1) (by decide))) (fun h => (Or.elim h (fun h => (absurd (show 140 = 141 from h) (by decide))) (fun h => (Or.elim h (fun h => (absurd (show 140 = 142 from h) (by decide))) (fun h => (Or.elim h (fun h => (absurd (show 140 = 143 from h) (by decide))) (fun h => (absurd (show (140 = 140 ∧ 5 = 4) from h) (by decide)))))))))))))))))))))))
theorem nj_79 {p1 p2 p3 p4 p5 p6 p7 : Prop} : ¬ (((140 : Nat) = 137 ∧ p1) ∨ ((140 : Nat) = 137 ∧ p2) ∨ ((140 : Nat) = 137 ∧ p3) ∨ ((140 : Nat) = 137 ∧ p4) ∨ ((140 : Nat) = 137 ∧ p5) ∨ ((140 : Nat) = 137 ∧ p6) ∨ ((140 : Nat) = 137 ∧ p7) ∨ (140 : Nat) = 141 ∨ (140 : Nat) = 142 ∨ (140 : Nat) = 143 ∨ ((140 : Nat) = 140 ∧ (6 : Nat) = 4)) := (fun h => (Or.elim h (fun h => (absurd (show 140 = 137 from (h).1) (by decide))) (fun h => (Or.elim h (fun h => (absurd (show 140 = 137 from (h).1) (by decide))) (fun h => (Or.elim h (fun h => (absurd (show 140 = 137 from (h).1) (by decide))) (fun h => (Or.elim h (fun h => (absurd (show 140 = 137 from (h).1) (by decide))) (fun h => (Or.elim h (fun h => (absurd (show 140 = 137 from (h).1) (by decide))) (fun h => (Or.elim h (fun h => (absurd (show 140 = 137 from (h).1) (by decide))) (fun h => (Or.elim h (fun h => (absurd (show 140 = 137 from (h).1) (by decide))) (fun h => (Or.elim h (fun h => (absurd (show 140 = 141 from h) (by decide))) (fun h => (Or.elim h (fun h => (absurd (show 140 = 142 from h) (by decide))) (fun h => (Or.elim h (fun h => (absurd (show 140 = 143 from h) (by decide))) (fun h => (absurd (show (140 = 140 ∧ 6 = 4) from h) (by decide)))))))))))))))))))))))
theorem nj_80 {p1 p2 p3 p4 p5 p6 p7 : Prop} : ¬ (((140 : Nat) = 137 ∧ p1) ∨ ((140 : Nat) = 137 ∧ p2) ∨ ((140 : Nat) = 137 ∧ p3) ∨ ((140 : Nat) = 137 ∧ p4) ∨ ((140 : Nat) = 137 ∧ p5) ∨ ((140 : Nat) = 137 ∧ p6) ∨ ((140 : Nat) = 137 ∧ p7) ∨ (140 : Nat) = 141 ∨ (140 : Nat) = 142 ∨ (140 : Nat) = 143 ∨ ((140 : Nat) = 140 ∧ (7 : Nat) = 4)) := (fun h => (Or.elim h (fun h => (absurd (show 140 = 137 from (h).1) (by decide))) (fun h => (Or.elim h (fun h => (absurd (show 140 = 137 from (h).1) (by decide))) (fun h => (Or.elim h (fun h => (absurd (show 140 = 137 from (h).1) (by decide))) (fun h => (Or.elim h (fun h => (absurd (show 140 = 137 from (h).1) (by decide))) (fun h => (Or.elim h (fun h => (absurd (show 140 = 137 from (h).1) (by decide))) (fun h => (Or.elim h (fun h => (absurd (show 140 = 137 from (h).1) (by decide))) (fun h => (Or.elim h (fun h => (absurd (show 140 = 137 from (h).1) (by decide))) (fun h => (Or.elim h (fun h => (absurd (show 140 = 141 from h) (by decide))) (fun h => (Or.elim h (fun h => (absurd (show 140 = 142 from h) (by decide))) (fun h => (Or.elim h (fun h => (absurd (show 140 = 143 from h) (by decide))) (fun h => (absurd (show (140 = 140 ∧ 7 = 4) from h) (by decide)))))))))))))))))))))))
theorem nj_81 {p1 p2 p3 p4 p5 p6 p7 p8 : Prop} : ¬ (((145 : Nat) = 137 ∧ p1) ∨ ((145 : Nat) = 137 ∧ p2) ∨ ((145 : Nat) = 137 ∧ p3) ∨ ((145 : Nat) = 137 ∧ p4) ∨ ((145 : Nat) = 137 ∧ p5) ∨ ((145 : Nat) = 137 ∧ p6) ∨ ((145 : Nat) = 137 ∧ p7) ∨ (145 : Nat) = 141 ∨ (145 : Nat) = 142 ∨ (145 : Nat) = 143 ∨ ((145 : Nat) = 140 ∧ p8)) := (fun h => (Or.elim h (fun h => (absurd (show 145 = 137 from (h).1) (by decide))) (fun h => (Or.elim h (fun h => (absurd (show 145 = 137 from (h).1) (by decide))) (fun h => (Or.elim h (fun h => (absurd (show 145 = 137 from (h).1) (by decide))) (fun h => (Or.elim h (fun h => (absurd (show 145 = 137 from (h).1) (by decide))) (fun h => (Or.elim h (fun h => (absurd (show 145 = 137 from (h).1) (by decide))) (fun h => (Or.elim h (fun h => (absurd (show 145 = 137 from (h).1) (by decide))) (fun h => (Or.elim h (fun h => (absurd (show 145 = 137 from (h).1) (by decide))) (fun h => (Or.elim h (fun h => (absurd (show 145 = 141 from h) (by decide))) (fun h => (Or.elim h (fun h => (absurd (show 145 = 142 from h) (by decide))) (fun h => (Or.elim h (fun h => (absurd (show 145 = 143 from h) (by decide))) (fun h => (absurd (show 145 = 140 from (h).1) (by decide)))))))))))))))))))))))
theorem nj_82 {p1 p2 p3 p4 p5 p6 p7 p8 : Prop} : ¬ (((146 : Nat) = 137 ∧ p1) ∨ ((146 : Nat) = 137 ∧ p2) ∨ ((146 : Nat) = 137 ∧ p3) ∨ ((146 : Nat) = 137 ∧ p4) ∨ ((146 : Nat) = 137 ∧ p5) ∨ ((146 : Nat) = 137 ∧ p6) ∨ ((146 : Nat) = 137 ∧ p7) ∨ (146 : Nat) = 141 ∨ (146 : Nat) = 142 ∨ (146 : Nat) = 143 ∨ ((146 : Nat) = 140 ∧ p8)) := (fun h => (Or.elim h (fun h => (absurd (show 146 = 137 from (h).1) (by decide))) (fun h => (Or.elim h (fun h => (absurd (show 146 = 137 from (h).1) (by decide))) (fun h => (Or.elim h (fun h => (absurd (show 146 = 137 from (h).1) (by decide))) (fun h => (Or.elim h (fun h => (absurd (show 146 = 137 from (h).1) (by decide))) (fun h => (Or.elim h (fun h => (absurd (show 146 = 137 from (h).1) (by decide))) (fun h => (Or.elim h (fun h => (absurd (show 146 = 137 from (h).1) (by decide))) (fun h => (Or.elim h (fun h => (absurd (show 146 = 137 from (h).1) (by decide))) (fun h => (Or.elim h (fun h => (absurd (show 146 = 141 from h) (by decide))) (fun h => (Or.elim h (fun h => (absurd (show 146 = 142 from h) (by decide))) (fun h => (Or.elim h (fun h => (absurd (show 146 = 143 from h) (by decide))) (fun h => (absurd (show 146 = 140 from (h).1) (by decide)))))))))))))))))))))))
theorem nj_83 {p1 p2 p3 p4 p5 p6 p7 p8 : Prop} : ¬ (((149 : Nat) = 137 ∧ p1) ∨ ((149 : Nat) = 137 ∧ p2) ∨ ((149 : Nat) = 137 ∧ p3) ∨ ((149 : Nat) = 137 ∧ p4) ∨ ((149 : Nat) = 137 ∧ p5) ∨ ((149 : Nat) = 137 ∧ p6) ∨ ((149 : Nat) = 137 ∧ p7) ∨ (149 : Nat) = 141 ∨ (149 : Nat) = 142 ∨ (149 : Nat) = 143 ∨ ((149 : Nat) = 140 ∧ p8)) := (fun h => (Or.elim h (fun h => (absurd (show 149 = 137 from (h).1) (by decide))) (fun h => (Or.elim h (fun h => (absurd (show 149 = 137 from (h).1) (by decide))) (fun h => (Or.elim h (fun h => (absurd (show 149 = 137 from (h).1) (by decide))) (fun h => (Or.elim h (fun h => (absurd (show 149 = 137 from (h).1) (by decide))) (fun h => (Or.elim h (fun h => (absurd (show 149 = 137 from (h).1) (by decide))) (fun h => (Or.elim h (fun h => (absurd (show 149 = 137 from (h).1) (by decide))) (fun h => (Or.elim h (fun h => (absurd (show 149 = 137 from (h).1) (by decide))) (fun h => (Or.elim h (fun h => (absurd (show 149 = 141 from h) (by decide))) (fun h => (Or.elim h (fun h => (absurd (show 149 = 142 from h) (by decide))) (fun h => (Or.elim h (fun h => (absurd (show 149 = 143 from h) (by decide))) (fun h => (absurd (show 149 = 140 from (h).1) (by decide)))))))))))))))))))))))
theorem nj_84 {p1 : Prop} : ¬ (((137 : Nat) = 137 ∧ (17 : Nat) = 16) ∨ ((137 : Nat) = 137 ∧ (17 : Nat) = 20) ∨ ((137 : Nat) = 137 ∧ (17 : Nat) = 18) ∨ ((137 : Nat) = 137 ∧ (17 : Nat) = 21) ∨ ((137 : Nat) = 137 ∧ (17 : Nat) = 19) ∨ ((137 : Nat) = 137 ∧ (17 : Nat) = 22) ∨ ((137 : Nat) = 137 ∧ (17 : Nat) = 23) ∨ (137 : Nat) = 144 ∨ (137 : Nat) = 145 ∨ (137 : Nat) = 146 ∨ (137 : Nat) = 147 ∨ ((137 : Nat) = 140 ∧ p1)) := (fun h => (Or.elim h (fun h => (absurd (show (137 = 137 ∧ 17 = 16) from h) (by decide))) (fun h => (Or.elim h (fun h => (absurd (show (137 = 137 ∧ 17 = 20) from h) (by decide))) (fun h => (Or.elim h (fun h => (absurd (show (137 = 137 ∧ 17 = 18) from h) (by decide))) (fun h => (Or.elim h (fun h => (absurd (show (137 = 137 ∧ 17 = 21) from h) (by decide))) (fun h => (Or.elim h (fun h => (absurd (show (137 = 137 ∧ 17 = 19) from h) (by decide))) (fun h => (Or.elim h (fun h => (absurd (show (137 = 137 ∧ 17 = 22) from h) (by decide))) (fun h => (Or.elim h (fun h => (absurd (show (137 = 137 ∧ 17 = 23) from h) (by decide))) (fun h => (Or.elim h (fun h => (absurd (show 137 = 144 from h) (by decide))) (fun h => (Or.elim h (fun h => (absurd (show 137 = 145 from h) (by decide))) (fun h => (Or.elim h (fun h => (absurd (show 137 = 146 from h) (by decide))) (fun h => (Or.elim h (fun h => (absurd (show 137 = 147 from h) (by decide))) (fun h => (absurd (show 137 = 140 from (h).1) (by decide)))))))))))))))))))))))))
theorem nj_85 {p1 p2 p3 p4 p5 p6 p7 : Prop} : ¬ (((140 : Nat) = 137 ∧ p1) ∨ ((140 : Nat) = 137 ∧ p2) ∨ ((140 : Nat) = 137 ∧ p3) ∨ ((140 : Nat) = 137 ∧ p4) ∨ ((140 : Nat) = 137 ∧ p5) ∨ ((140 : Nat) = 137 ∧ p6) ∨ ((140 : Nat) = 137 ∧ p7) ∨ (140 : Nat) = 144 ∨ (140 : Nat) = 145 ∨ (140 : Nat) = 146 ∨ (140 : Nat) = 147 ∨ ((140 : Nat) = 140 ∧ (4 : Nat) = 5)) := (fun h => (Or.elim h (fun h => (absurd (show 140 = 137 from (h).1) (by decide))) (fun h => (Or.elim h (fun h => (absurd (show 140 = 137 from (h).1) (by decide))) (fun h => (Or.elim h (fun h => (absurd (show 140 = 137 from (h).1) (by decide))) (fun h => (Or.elim h (fun h => (absurd (show 140 = 137 from (h).1) (by decide))) (fun h => (Or.elim h (fun h => (absurd (show 140 = 137 from (h).1) (by decide))) (fun h => (Or.elim h (fun h => (absurd (show 140 = 137 from (h).1) (by decide))) (fun h => (Or.elim h (fun h => (absurd (show 140 = 137 from (h).1) (by decide))) (fun h => (Or.elim h (fun h => (absurd (show 140 = 144 from h) (by decide))) (fun h => (Or.elim h (fun h => (absurd (show 140 = 145 from h) (by decide))) (fun h => (Or.elim h (fun h => (absurd (show 140 = 146 from h) (by decide))) (fun h => (Or.elim h (fun h => (absurd (show 140 = 147 from h) (by decide))) (fun h => (absurd (show (140 = 140 ∧ 4 = 5) from h) (by decide)))))))))))))))))))))))))
theorem nj_86 {p1 p2 p3 p4 p5 p6 p7 : Prop} : ¬ (((140 : Nat) = 137 ∧ p1) ∨ ((140 : Nat) = 137 ∧ p2) ∨ ((140 : Nat) = 137 ∧ p3) ∨ ((140 : Nat) = 137 ∧ p4) ∨ ((140 : Nat) = 137 ∧ p5) ∨ ((140 : Nat) = 137 ∧ p6) ∨ ((140 : Nat) = 137 ∧ p7) ∨ (140 : Nat) = 144 ∨ (140 : Nat) = 145 ∨ (140 : Nat) = 146 ∨ (140 : Nat) = 147 ∨ ((140 : Nat) = 140 ∧ (6 : Nat) = 5)) := (fun h => (Or.elim h (fun h => (absurd (show 140 = 137 from (h).1) (by decide))) (fun h => (Or.elim h (fun h => (absurd (show 140 = 137 from (h).1) (by decide))) (fun h => (Or.elim h (fun h => (absurd (show 140 = 137 from (h).1) (by decide))) (fun h => (Or.elim h (fun h => (absurd (show 140 = 137 from (h).1) (by decide))) (fun h => (Or.elim h (fun h => (absurd (show 140 = 137 from (h).1) (by decide))) (fun h => (Or.elim h (fun h => (absurd (show 140 = 137 from (h).1) (by decide))) (fun h => (Or.elim h (fun h => (absurd (show 140 = 137 from (h).1) (by decide))) (fun h => (Or.elim h (fun h => (absurd (show 140 = 144 from h) (by decide))) (fun h => (Or.elim h (fun h => (absurd (show 140 = 145 from h) (by decide))) (fun h => (Or.elim h (fun h => (absurd (show 140 = 146 from h) (by decide))) (fun h => (Or.elim h (fun h => (absurd (show 140 = 147 from h) (by decide))) (fun h => (absurd (show (140 = 140 ∧ 6 = 5) from h) (by decide)))))))))))))))))))))))))
theorem nj_87 {p1 p2 p3 p4 p5 p6 p7 : Prop} : ¬ (((140 : Nat) = 137 ∧ p1) ∨ ((140 : Nat) = 137 ∧ p2) ∨ ((140 : Nat) = 137 ∧ p3) ∨ ((140 : Nat) = 137 ∧ p4) ∨ ((140 : Nat) = 137 ∧ p5) ∨ ((140 : Nat) = 137 ∧ p6) ∨ ((140 : Nat) = 137 ∧ p7) ∨ (140 : Nat) = 144 ∨ (140 : Nat) = 145 ∨ (140 : Nat) = 146 ∨ (140 : Nat) = 147 ∨ ((140 : Nat) = 140 ∧ (7 : Nat) = 5)) := (fun h => (Or.elim h (fun h => (absurd (show 140 = 137 from (h).1) (by decide))) (fun h => (Or.elim h (fun h => (absurd (show 140 = 137 from (h).1) (by decide))) (fun h => (Or.elim h (fun h => (absurd (show 140 = 137 from (h).1) (by decide))) (fun h => (Or.elim h (fun h => (absurd (show 140 = 137 from (h).1) (by decide))) (fun h => (Or.elim h (fun h => (absurd (show 140 = 137 from (h).1) (by decide))) (fun h => (Or.elim h (fun h => (absurd (show 140 = 137 from (h).1) (by decide))) (fun h => (Or.elim h (fun h => (absurd (show 140 = 137 from (h).1) (by decide))) (fun h => (Or.elim h (fun h => (absurd (show 140 = 144 from h) (by decide))) (fun h => (Or.elim h (fun h => (absurd (show 140 = 145 from h) (by decide))) (fun h => (Or.elim h (fun h => (absurd (show 140 = 146 from h) (by decide))) (fun h => (Or.elim h (fun h => (absurd (show 140 = 147 from h) (by decide))) (fun h => (absurd (show (140 = 140 ∧ 7 = 5) from h) (by decide)))))))))))))))))))))))))
theorem nj_88 {p1 p2 p3 p4 p5 p6 p7 p8 : Prop} : ¬ (((142 : Nat) = 137 ∧ p1) ∨ ((142 : Nat) = 137 ∧ p2) ∨ ((142 : Nat) = 137 ∧ p3) ∨ ((142 : Nat) = 137 ∧ p4) ∨ ((142 : Nat) = 137 ∧ p5) ∨ ((142 : Nat) = 137 ∧ p6) ∨ ((142 : Nat) = 137 ∧ p7) ∨ (142 : Nat) = 144 ∨ (142 : Nat) = 145 ∨ (142 : Nat) = 146 ∨ (142 : Nat) = 147 ∨ ((142 : Nat) = 140 ∧ p8)) := (fun h => (Or.elim h (fun h => (absurd (show 142 = 137 from (h).1) (by decide))) (fun h => (Or.elim h (fun h => (absurd (show 142 = 137 from (h).1) (by decide))) (fun h => (Or.elim h (fun h => (absurd (show 142 = 137 from (h).1) (by decide))) (fun h => (Or.elim h (fun h => (absurd (show 142 = 137 from (h).1) (by decide))) (fun h => (Or.elim h (fun h => (absurd (show 142 = 137 from (h).1) (by decide))) (fun h => (Or.elim h (fun h => (absurd (show 142 = 137 from (h).1) (by decide))) (fun h => (Or.elim h (fun h => (absurd (show 142 = 137 from (h).1) (by decide))) (fun h => (Or.elim h (fun h => (absurd (show 142 = 144 from h) (by decide))) (fun h => (Or.elim h (fun h => (absurd (show 142 = 145 from h) (by decide))) (fun h => (Or.elim h (fun h => (absurd (show 142 = 146 from h) (by decide))) (fun h => (Or.elim h (fun h => (absurd (show 142 = 147 from h) (by decide))) (fun h => (absurd (show 142 = 140 from (h).1) (by decide)))))))))))))))))))))))))
theorem nj_89 {p1 p2 p3 p4 p5 p6 p7 p8 : Prop} : ¬ (((149 : Nat) = 137 ∧ p1) ∨ ((149 : Nat) = 137 ∧ p2) ∨ ((149 : Nat) = 137 ∧ p3) ∨ ((149 : Nat) = 137 ∧ p4) ∨ ((149 : Nat) = 137 ∧ p5) ∨ ((149 : Nat) = 137 ∧ p6) ∨ ((149 : Nat) = 137 ∧ p7) ∨ (149 : Nat) = 144 ∨ (149 : Nat) = 145 ∨ (149 : Nat) = 146 ∨ (149 : Nat) = 147 ∨ ((149 : Nat) = 140 ∧ p8)) := (fun h => (Or.elim h (fun h => (absurd (show 149 = 137 from (h).1) (by decide))) (fun h => (Or.elim h (fun h => (absurd (show 149 = 137 from (h).1) (by decide))) (fun h => (Or.elim h (fun h => (absurd (show 149 = 137 from (h).1) (by decide))) (fun h => (Or.elim h (fun h => (absurd (show 149 = 137 from (h).1) (by decide))) (fun h => (Or.elim h (fun h => (absurd (show 149 = 137 from (h).1) (by decide))) (fun h => (Or.elim h (fun h => (absurd (show 149 = 137 from (h).1) (by decide))) (fun h => (Or.elim h (fun h => (absurd (show 149 = 137 from (h).1) (by decide))) (fun h => (Or.elim h (fun h => (absurd (show 149 = 144 from h) (by decide))) (fun h => (Or.elim h (fun h => (absurd (show 149 = 145 from h) (by decide))) (fun h => (Or.elim h (fun h => (absurd (show 149 = 146 from h) (by decide))) (fun h => (Or.elim h (fun h => (absurd (show 149 = 147 from h) (by decide))) (fun h => (absurd (show 149 = 140 from (h).1) (by decide)))))))))))))))))))))))))
theorem nj_90 {p1 p2 p3 p4 p5 : Prop} : ¬ (((145 : Nat) = 137 ∧ p1) ∨ ((145 : Nat) = 137 ∧ p2) ∨ ((145 : Nat) = 137 ∧ p3) ∨ ((145 : Nat) = 137 ∧ p4) ∨ ((145 : Nat) = 137 ∧ p5)) := (fun h => (Or.elim h (fun h => (absurd (show 145 = 137 from (h).1) (by decide))) (fun h => (Or.elim h (fun h => (absurd (show 145 = 137 from (h).1) (by decide))) (fun h => (Or.elim h (fun h => (absurd (show 145 = 137 from (h).1) (by decide))) (fun h => (Or.elim h (fun h => (absurd (show 145 = 137 from (h).1) (by decide))) (fun h => (absurd (show 145 = 137 from (h).1) (by decide)))))))))))
theorem nj_91 {p1 p2 p3 p4 p5 : Prop} : ¬ (((146 : Nat) = 137 ∧ p1) ∨ ((146 : Nat) = 137 ∧ p2) ∨ ((146 : Nat) = 137 ∧ p3) ∨ ((146 : Nat) = 137 ∧ p4) ∨ ((146 : Nat) = 137 ∧ p5)) := (fun h => (Or.elim h (fun h => (absurd (show 146 = 137 from (h).1) (by decide))) (fun h => (Or.elim h (fun h => (absurd (show 146 = 137 from (h).1) (by decide))) (fun h => (Or.elim h (fun h => (absurd (show 146 = 137 from (h).1) (by decide))) (fun h => (Or.elim h (fun h => (absurd (show 146 = 137 from (h).1) (by decide))) (fun h => (absurd (show 146 = 137 from (h).1) (by decide)))))))))))
theorem nj_92 {p1 p2 p3 p4 p5 p6 p7 p8 : Prop} : ¬ (((142 : Nat) = 137 ∧ p1) ∨ ((142 : Nat) = 137 ∧ p2) ∨ ((142 : Nat) = 137 ∧ p3) ∨ ((142 : Nat) = 137 ∧ p4) ∨ ((142 : Nat) = 137 ∧ p5) ∨ ((142 : Nat) = 137 ∧ p6) ∨ ((142 : Nat) = 137 ∧ p7) ∨ (142 : Nat) = 149 ∨ ((142 : Nat) = 140 ∧ p8)) := (fun h => (Or.elim h (fun h => (absurd (show 142 = 137 from (h).1) (by decide))) (fun h => (Or.elim h (fun h => (absurd (show 142 = 137 from (h).1) (by decide))) (fun h => (Or.elim h (fun h => (absurd (show 142 = 137 from (h).1) (by decide))) (fun h => (Or.elim h (fun h => (absurd (show 142 = 137 from (h).1) (by decide))) (fun h => (Or.elim h (fun h => (absurd (show 142 = 137 from (h).1) (by decide))) (fun h => (Or.elim h (fun h => (absurd (show 142 = 137 from (h).1) (by decide))) (fun h => (Or.elim h (fun h => (absurd (show 142 = 137 from (h).1) (by decide))) (fun h => (Or.elim h (fun h => (absurd (show 142 = 149 from h) (by decide))) (fun h => (absurd (show 142 = 140 from (h).1) (by decide)))))))))))))))))))
theorem nj_93 {p1 p2 p3 p4 p5 p6 p7 p8 : Prop} : ¬ (((145 : Nat) = 137 ∧ p1) ∨ ((145 : Nat) = 137 ∧ p2) ∨ ((145 : Nat) = 137 ∧ p3) ∨ ((145 : Nat) = 137 ∧ p4) ∨ ((145 : Nat) = 137 ∧ p5) ∨ ((145 : Nat) = 137 ∧ p6) ∨ ((145 : Nat) = 137 ∧ p7) ∨ (145 : Nat) = 149 ∨ ((145 : Nat) = 140 ∧ p8)) := (fun h => (Or.elim h (fun h => (absurd (show 145 = 137 from (h).1) (by decide))) (fun h => (Or.elim h (fun h => (absurd (show 145 = 137 from (h).1) (by decide))) (fun h => (Or.elim h (fun h => (absurd (show 145 = 137 from (h).1) (by decide))) (fun h => (Or.elim h (fun h => (absurd (show 145 = 137 from (h).1) (by decide))) (fun h => (Or.elim h (fun h => (absurd (show 145 = 137 from (h).1) (by decide))) (fun h => (Or.elim h (fun h => (absurd (show 145 = 137 from (h).1) (by decide))) (fun h => (Or.elim h (fun h => (absurd (show 145 = 137 from (h).1) (by decide))) (fun h => (Or.elim h (fun h => (absurd (show 145 = 149 from h) (by decide))) (fun h => (absurd (show 145 = 140 from (h).1) (by decide)))))))))))))))))))
theorem nj_94 {p1 p2 p3 p4 p5 p6 p7 p8 : Prop} : ¬ (((146 : Nat) = 137 ∧ p1) ∨ ((146 : Nat) = 137 ∧ p2) ∨ ((146 : Nat) = 137 ∧ p3) ∨ ((146 : Nat) = 137 ∧ p4) ∨ ((146 : Nat) = 137 ∧ p5) ∨ ((146 : Nat) = 137 ∧ p6) ∨ ((146 : Nat) = 137 ∧ p7) ∨ (146 : Nat) = 149 ∨ ((146 : Nat) = 140 ∧ p8)) := (fun h => (Or.elim h (fun h => (absurd (show 146 = 137 from (h).1) (by decide))) (fun h => (Or.elim h (fun h => (absurd (show 146 = 137 from (h).1) (by decide))) (fun h => (Or.elim h (fun h => (absurd (show 146 = 137 from (h).1) (by decide))) (fun h => (Or.elim h (fun h => (absurd (show 146 = 137 from (h).1) (by decide))) (fun h => (Or.elim h (fun h => (absurd (show 146 = 137 from (h).1) (by decide))) (fun h => (Or.elim h (fun h => (absurd (show 146 = 137 from (h).1) (by decide))) (fun h => (Or.elim h (fun h => (absurd (show 146 = 137 from (h).1) (by decide))) (fun h => (Or.elim h (fun h => (absurd (show 146 = 149 from h) (by decide))) (fun h => (absurd (show 146 = 140 from (h).1) (by decide)))))))))))))))))))
theorem nj_95 {p1 : Prop} : ¬ (((137 : Nat) = 137 ∧ (17 : Nat) = 16) ∨ ((137 : Nat) = 137 ∧ (17 : Nat) = 20) ∨ ((137 : Nat) = 137 ∧ (17 : Nat) = 18) ∨ ((137 : Nat) = 137 ∧ (17 : Nat) = 21) ∨ ((137 : Nat) = 137 ∧ (17 : Nat) = 19) ∨ ((137 : Nat) = 137 ∧ (17 : Nat) = 22) ∨ ((137 : Nat) = 137 ∧ (17 : Nat) = 23) ∨ ((137 : Nat) = 140 ∧ p1) ∨ (137 : Nat) = 148) := (fun h => (Or.elim h (fun h => (absurd (show (137 = 137 ∧ 17 = 16) from h) (by decide))) (fun h => (Or.elim h (fun h => (absurd (show (137 = 137 ∧ 17 = 20) from h) (by decide))) (fun h => (Or.elim h (fun h => (absurd (show (137 = 137 ∧ 17 = 18) from h) (by decide))) (fun h => (Or.elim h (fun h => (absurd (show (137 = 137 ∧ 17 = 21) from h) (by decide))) (fun h => (Or.elim h (fun h => (absurd (show (137 = 137 ∧ 17 = 19) from h) (by decide))) (fun h => (Or.elim h (fun h => (absurd (show (137 = 137 ∧ 17 = 22) from h) (by decide))) (fun h => (Or.elim h (fun h => (absurd (show (137 = 137 ∧ 17 = 23) from h) (by decide))) (fun h => (Or.elim h (fun h => (absurd (show 137 = 140 from (h).1) (by decide))) (fun h => (absurd (show 137 = 148 from h) (by decide)))))))))))))))))))
theorem nj_96 {p1 p2 p3 p4 p5 p6 p7 p8 : Prop} : ¬ (((142 : Nat) = 137 ∧ p1) ∨ ((142 : Nat) = 137 ∧ p2) ∨ ((142 : Nat) = 137 ∧ p3) ∨ ((142 : Nat) = 137 ∧ p4) ∨ ((142 : Nat) = 137 ∧ p5) ∨ ((142 : Nat) = 137 ∧ p6) ∨ ((142 : Nat) = 137 ∧ p7) ∨ ((142 : Nat) = 140 ∧ p8) ∨ (142 : Nat) = 148) := (fun h => (Or.elim h (fun h => (absurd (show 142 = 137 from (h).1) (by decide))) (fun h => (Or.elim h (fun h => (absurd (show 142 = 137 from (h).1) (by decide))) (fun h => (Or.elim h (fun h => (absurd (show 142 = 137 from (h).1) (by decide))) (fun h => (Or.elim h (fun h => (absurd (show 142 = 137 from (h).1) (by decide))) (fun h => (Or.elim h (fun h => (absurd (show 142 = 137 from (h).1) (by decide))) (fun h => (Or.elim h (fun h => (absurd (show 142 = 137 from (h).1) (by decide))) (fun h => (Or.elim h (fun h => (absurd (show 142 = 137 from (h).1) (by decide))) (fun h => (Or.elim h (fun h => (absurd (show 142 = 140 from (h).1) (by decide))) (fun h => (absurd (show 142 = 148 from h) (by decide)))))))))))))))))))
theorem nj_97 {p1 p2 p3 p4 p5 p6 p7 p8 : Prop} : ¬ (((145 : Nat) = 137 ∧ p1) ∨ ((145 : Nat) = 137 ∧ p2) ∨ ((145 : Nat) = 137 ∧ p3) ∨ ((145 : Nat) = 137 ∧ p4) ∨ ((145 : Nat) = 137 ∧ p5) ∨ ((145 : Nat) = 137 ∧ p6) ∨ ((145 : Nat) = 137 ∧ p7) ∨ ((145 : Nat) = 140 ∧ p8) ∨ (145 : Nat) = 148) := (fun h => (Or.elim h (fun h => (absurd (show 145 = 137 from (h).1) (by decide))) (fun h => (Or.elim h (fun h => (absurd (show 145 = 137 from (h).1) (by decide))) (fun h => (Or.elim h (fun h => (absurd (show 145 = 137 from (h).1) (by decide))) (fun h => (Or.elim h (fun h => (absurd (show 145 = 137 from (h).1) (by decide))) (fun h => (Or.elim h (fun h => (absurd (show 145 = 137 from (h).1) (by decide))) (fun h => (Or.elim h (fun h => (absurd (show 145 = 137 from (h).1) (by decide))) (fun h => (Or.elim h (fun h => (absurd (show 145 = 137 from (h).1) (by decide))) (fun h => (Or.elim h (fun h => (absurd (show 145 = 140 from (h).1) (by decide))) (fun h => (absurd (show 145 = 148 from h) (by decide)))))))))))))))))))
theorem nj_98 {p1 p2 p3 p4 p5 p6 p7 p8 : Prop} : ¬ (((146 : Nat) = 137 ∧ p1) ∨ ((146 : Nat) = 137 ∧ p2) ∨ ((146 : Nat) = 137 ∧ p3) ∨ ((146 : Nat) = 137 ∧ p4) ∨ ((146 : Nat) = 137 ∧ p5) ∨ ((146 : Nat) = 137 ∧ p6) ∨ ((146 : Nat) = 137 ∧ p7) ∨ ((146 : Nat) = 140 ∧ p8) ∨ (146 : Nat) = 148) := (fun h => (Or.elim h (fun h => (absurd (show 146 = 137 from (h).1) (by decide))) (fun h => (Or.elim h (fun h => (absurd (show 146 = 137 from (h).1) (by decide))) (fun h => (Or.elim h (fun h => (absurd (show 146 = 137 from (h).1) (by decide))) (fun h => (Or.elim h (fun h => (absurd (show 146 = 137 from (h).1) (by decide))) (fun h => (Or.elim h (fun h => (absurd (show 146 = 137 from (h).1) (by decide))) (fun h => (Or.elim h (fun h => (absurd (show 146 = 137 from (h).1) (by decide))) (fun h => (Or.elim h (fun h => (absurd (show 146 = 137 from (h).1) (by decide))) (fun h => (Or.elim h (fun h => (absurd (show 146 = 140 from (h).1) (by decide))) (fun h => (absurd (show 146 = 148 from h) (by decide)))))))))))))))))))
theorem nj_99 {p1 p2 p3 p4 p5 p6 p7 p8 : Prop} : ¬ (((149 : Nat) = 137 ∧ p1) ∨ ((149 : Nat) = 137 ∧ p2) ∨ ((149 : Nat) = 137 ∧ p3) ∨ ((149 : Nat) = 137 ∧ p4) ∨ ((149 : Nat) = 137 ∧ p5) ∨ ((149 : Nat) = 137 ∧ p6) ∨ ((149 : Nat) = 137 ∧ p7) ∨ ((149 : Nat) = 140 ∧ p8) ∨ (149 : Nat) = 148) := (fun h => (Or.elim h (fun h => (absurd (show 149 = 137 from (h).1) (by decide))) (fun h => (Or.elim h (fun h => (absurd (show 149 = 137 from (h).1) (by decide))) (fun h => (Or.elim h (fun h => (absurd (show 149 = 137 from (h).1) (by decide))) (fun h => (Or.elim h (fun h => (absurd (show 149 = 137 from (h).1) (by decide))) (fun h => (Or.elim h (fun h => (absurd (show 149 = 137 from (h).1) (by decide))) (fun h => (Or.elim h (fun h => (absurd (show 149 = 137 from (h).1) (by decide))) (fun h => (Or.elim h (fun h => (absurd (show 149 = 137 from (h).1) (by decide))) (fun h => (Or.elim h (fun h => (absurd (show 149 = 140 from (h).1) (by decide))) (fun h => (absurd (show 149 = 148 from h) (by decide)))))))))))))))))))
theorem fd_12_15 : mm_tab mm_fldT 12 15 = some (12, 0, 0) ∧ mm_tab mm_ftT 12 0 = some 6 := ⟨rfl, rfl⟩
theorem mt_12_283 : mm_tab mm_mthT 12 283 = some (1, 213, 0, 0, 12) := rfl
theorem mt_12_286 : mm_tab mm_mthT 12 286 = some (1, 212, 1, 0, 12) := rfl
theorem mt_12_291 : mm_tab mm_mthT 12 291 = some (1, 210, 0, 0, 12) := rfl
theorem rf_137_0 (a b : Nat) (c : Option Nat) : mm_HR a b c 137 0 = some 138 := rfl
def fw_X12_readLine (x : mm_X) (a1 : Int) : Nat → Nat → Prop := fun k j => (k = 137 ∧ j = 22) ∨ (k = 137 ∧ j = 23) ∨ (k = 137 ∧ j = 16) ∨ (k = 137 ∧ j = 20) ∨ (k = 137 ∧ j = 18) ∨ (k = 137 ∧ j = 21) ∨ (k = 137 ∧ j = 19) ∨ k = 141 ∨ k = 142 ∨ k = 143 ∨ (k = 140 ∧ j = 4) ∨ k = 144 ∨ k = 145 ∨ k = 146 ∨ k = 147 ∨ (k = 140 ∧ j = 5) ∨ k = 149 ∨ (k = 140 ∧ j = 7) ∨ (k = 140 ∧ j = 6) ∨ k = 148
set_option maxHeartbeats 20000000 in
theorem f_X12_readLine {d : Nat} (hd : 70 ≤ d) {x : mm_X} (hx : mk_x x) {g : mz_G} (hI : mz_inv g) {a1 : Int} (l_a1 : 0 ≤ a1) (u_a1 : a1 ≤ 3) (p1 : g 137 20 ≤ g 137 16 ∧ g 137 21 = g 137 16 ∧ g 137 16 ≤ g 137 17 ∧ (g 137 18 ≠ 0 → g 137 20 < g 137 16)) (p2 : mz_TI g a1) {Q : (Option Value ⊕ Nat) → mm_H → Prop} (hQ : ∀ (r : Int) (g1 : mz_G), mz_inv g1 → mz_fr (fw_X12_readLine x a1) g g1 → 0 ≤ r → r ≤ 3 → (g1 137 20 ≤ g1 137 16 ∧ g1 137 21 = g1 137 16 ∧ g1 137 16 ≤ g1 137 17 ∧ (g1 137 18 ≠ 0 → g1 137 20 < g1 137 16)) → (g 137 20 ≤ g1 137 20) → (g1 137 22 = 0 → g 137 22 = 0) → (g1 137 22 = 0 → g 137 20 < g1 137 20) → (mz_TI g1 r) → (mz_K1 g g1) → zf_E (zF_X12_readLine a1 g) ((r, g1)) → Q (.inl (some (.int (Int32.ofInt r)))) (mz_mk g1 x)) : mm_C d 214 [.ref 137, .int (Int32.ofInt a1)] (mz_mk g x) Q := by
  refine ⟨mmX12_readLine, [some (.ref 137), some (.int (Int32.ofInt a1)), none, none], rfl, rfl, ?_⟩
  have bz0 := mz_rd hI bd_137_16
  have bz1 := mz_rd hI bd_137_17
  have bz2 := mz_rd hI bd_137_18
  have bz3 := mz_rd hI bd_137_20
  have bz4 := mz_rd hI bd_137_21
  have bz5 := mz_rd hI bd_137_22
  have bz6 := mz_rd hI bt_140_4
  have bz7 := mz_rd hI bt_140_5
  have bz8 := mz_rd hI bt_140_6
  have bz9 := mz_rd hI bt_140_7
  have hti : mz_TI g a1 → mz_TI g a1 := fun h => h
  have hE : zf_E (zF_X12_readLine a1 g) (zF_X12_readLine a1 g) := zf_rf
  refine mm_g 2 (pc1 := 2) (lo1 := [some (.ref 137), some (.int (Int32.ofInt a1)), none, none]) (st1 := [.ref 137, .ref 137]) (H1 := mz_mk g x) rfl ?_
  refine mz_fgR (v := 138) rfl fd_12_15 (by decide) (sc_137 _) (rf_137_0 _ _ _) ?_
  refine mz_cv rfl mt_12_240 (by decide) (sc_137 _) rfl (Nat.le_of_ble_eq_true rfl) (by omega) (f_X12_which (by omega) hx hI ksa_138 (by omega) (fun v7 l_v7 u_v7 hp8 hp9 hc10 => ⟨_, rfl, ?_⟩))
  show mm_W d mmX12_readLine 8 [some (.ref 137), some (.int (Int32.ofInt a1)), none, none] [.int (Int32.ofInt v7)] (mz_mk g x) Q
  replace hE := zf_t1 hE hc10
  replace hp8 := mz_hd hp8
  refine mm_g 2 (pc1 := 10) (lo1 := [some (.ref 137), some (.int (Int32.ofInt a1)), some (.int (Int32.ofInt v7)), none]) (st1 := [.ref 137]) (H1 := mz_mk g x) rfl ?_
  refine mz_ldcS (j := 17) rfl rfl rfl ?_
  refine mz_cv rfl mt_12_217 (by decide) (sc_137 _) rfl (Nat.le_of_ble_eq_true rfl) (by omega) (f_X12_is (by omega) hx hI (by decide) (by omega) (fun v17 l_v17 u_v17 hp18 hc19 => ⟨_, rfl, ?_⟩))
  show mm_W d mmX12_readLine 15 [some (.ref 137), some (.int (Int32.ofInt a1)), some (.int (Int32.ofInt v7)), none] [.int (Int32.ofInt v17)] (mz_mk g x) Q
  replace hE := zf_t1 hE hc19
  replace hp18 := mz_hd hp18
  refine mz_if_eq (tgt := 22) rfl rfl (mz_rg l_v17 u_v17) (fun c15_19 => ?_) (fun c15_19 => ?_)
  · skip
    replace hE := zf_ip hE c15_19
    refine mm_g 1 (pc1 := 23) (lo1 := [some (.ref 137), some (.int (Int32.ofInt a1)), some (.int (Int32.ofInt v7)), none]) (st1 := [.ref 137]) (H1 := mz_mk g x) rfl ?_
    refine mz_ldcSW (j := 23) rfl rfl rfl ?_
    refine mz_cv rfl mt_12_217 (by decide) (sc_137 _) rfl (Nat.le_of_ble_eq_true rfl) (by omega) (f_X12_is (by omega) hx hI (by decide) (by omega) (fun v26 l_v26 u_v26 hp27 hc28 => ⟨_, rfl, ?_⟩))
    show mm_W d mmX12_readLine 29 [some (.ref 137), some (.int (Int32.ofInt a1)), some (.int (Int32.ofInt v7)), none] [.int (Int32.ofInt v26)] (mz_mk g x) Q
    replace hE := zf_t1 hE hc28
    replace hp27 := mz_hd hp27
    refine mz_if_eq (tgt := 36) rfl rfl (mz_rg l_v26 u_v26) (fun c29_28 => ?_) (fun c29_28 => ?_)
    · skip
      replace hE := zf_ip hE c29_28
      refine mm_g 4 (pc1 := 40) (lo1 := [some (.ref 137), some (.int (Int32.ofInt a1)), some (.int (Int32.ofInt v7)), some (.int (Int32.ofInt 0))]) (st1 := [.int (Int32.ofInt a1), .int (Int32.ofInt 0)]) (H1 := mz_mk g x) rfl ?_
      refine mz_iand rfl (fun v29 e_v29 hwv29 => ?_)
      have b_v29 : 0 ≤ v29 ∧ v29 ≤ 3 := by rw [e_v29]; exact mz_and_r (by omega) (by omega) ⟨by decide, by decide⟩
      have l_v29 := b_v29.1
      have u_v29 := b_v29.2
      have w_v29 : v29 ≤ a1 := by rw [e_v29]; exact (mz_and_r (hi := a1) (by omega) (Int.le_refl _) ⟨by decide, by decide⟩ (by omega)).2
      replace hE := zf_tr hE (zf_le e_v29.symm)
      have kd_v29 := mz_kd0 l_a1 u_a1
      refine mz_if_eq (tgt := 49) rfl rfl (mz_rg l_v29 u_v29) (fun c41_29 => ?_) (fun c41_29 => ?_)
      · skip
        replace hE := zf_ip hE c41_29
        refine mm_g 2 (pc1 := 51) (lo1 := [some (.ref 137), some (.int (Int32.ofInt a1)), some (.int (Int32.ofInt v7)), some (.int (Int32.ofInt 0))]) (st1 := [.int (Int32.ofInt 1), .int (Int32.ofInt 0)]) (H1 := mz_mk g x) rfl ?_
        refine mz_ic_ne (tgt := 68) rfl rfl ⟨by decide, by decide⟩ ⟨by decide, by decide⟩ (fun c51_29 => ?_) (fun c51_29 => ?_)
        · skip
          (try unfold zJ_X12_readLine_37 at hE)
          (try unfold zJ_X12_readLine_49 at hE)
          (try unfold zJ_X12_readLine_127 at hE)
          (try unfold zJ_X12_readLine_68 at hE)
          (try unfold zJ_X12_readLine_92 at hE)
          (try unfold zJ_X12_readLine_37 at hE)
          (try unfold zJ_X12_readLine_49 at hE)
          (try unfold zJ_X12_readLine_127 at hE)
          (try unfold zJ_X12_readLine_68 at hE)
          (try unfold zJ_X12_readLine_92 at hE)
          replace hE := zf_in hE c51_29
          refine mm_g 2 (pc1 := 70) (lo1 := [some (.ref 137), some (.int (Int32.ofInt a1)), some (.int (Int32.ofInt v7)), some (.int (Int32.ofInt 0))]) (st1 := [.int (Int32.ofInt 2), .int (Int32.ofInt 0)]) (H1 := mz_mk g x) rfl ?_
          refine mz_ic_ne (tgt := 92) rfl rfl ⟨by decide, by decide⟩ ⟨by decide, by decide⟩ (fun c70_29 => ?_) (fun c70_29 => ?_)
          · skip
            (try unfold zJ_X12_readLine_37 at hE)
            (try unfold zJ_X12_readLine_49 at hE)
            (try unfold zJ_X12_readLine_127 at hE)
            (try unfold zJ_X12_readLine_68 at hE)
            (try unfold zJ_X12_readLine_92 at hE)
            (try unfold zJ_X12_readLine_37 at hE)
            (try unfold zJ_X12_readLine_49 at hE)
            (try unfold zJ_X12_readLine_127 at hE)
            (try unfold zJ_X12_readLine_68 at hE)
            (try unfold zJ_X12_readLine_92 at hE)
            replace hE := zf_in hE c70_29
            refine mm_g 2 (pc1 := 94) (lo1 := [some (.ref 137), some (.int (Int32.ofInt a1)), some (.int (Int32.ofInt v7)), some (.int (Int32.ofInt 0))]) (st1 := [.int (Int32.ofInt (-1)), .int (Int32.ofInt v7)]) (H1 := mz_mk g x) rfl ?_
            refine mz_ic_eq (tgt := 105) rfl rfl (mz_rg l_v7 u_v7) ⟨by decide, by decide⟩ (fun c94_29 => ?_) (fun c94_29 => ?_)
            · skip
              replace hE := zf_ip hE c94_29
              refine mm_g 1 (pc1 := 106) (lo1 := [some (.ref 137), some (.int (Int32.ofInt a1)), some (.int (Int32.ofInt v7)), some (.int (Int32.ofInt 0))]) (st1 := [.ref 137]) (H1 := mz_mk g x) rfl ?_
              refine mz_ldcSW (j := 27) rfl rfl rfl ?_
              refine mz_cv rfl mt_12_217 (by decide) (sc_137 _) rfl (Nat.le_of_ble_eq_true rfl) (by omega) (f_X12_is (by omega) hx hI (by decide) (by omega) (fun v36 l_v36 u_v36 hp37 hc38 => ⟨_, rfl, ?_⟩))
              show mm_W d mmX12_readLine 112 [some (.ref 137), some (.int (Int32.ofInt a1)), some (.int (Int32.ofInt v7)), some (.int (Int32.ofInt 0))] [.int (Int32.ofInt v36)] (mz_mk g x) Q
              replace hE := zf_t1 hE hc38
              replace hp37 := mz_hd hp37
              refine mz_if_eq (tgt := 122) rfl rfl (mz_rg l_v36 u_v36) (fun c112_38 => ?_) (fun c112_38 => ?_)
              · skip
                replace hE := zf_ip hE c112_38
                refine mm_g 2 (pc1 := 124) (lo1 := [some (.ref 137), some (.int (Int32.ofInt a1)), some (.int (Int32.ofInt v7)), some (.int (Int32.ofInt 0))]) (st1 := [.int (Int32.ofInt 1), .ref 137]) (H1 := mz_mk g x) rfl ?_
                refine mz_cv rfl mt_12_224 (by decide) (sc_137 _) rfl (Nat.le_of_ble_eq_true rfl) (by omega) (f_X12_wrong (by omega) hx hI (by decide) (by decide) (fun g40 hIg40 hfg40 hp41 hp42 hc43 => ⟨_, rfl, ?_⟩))
                show mm_W d mmX12_readLine 127 [some (.ref 137), some (.int (Int32.ofInt a1)), some (.int (Int32.ofInt v7)), some (.int (Int32.ofInt 0))] [] (mz_mk g40 x) Q
                replace hE := zf_t1 hE hc43
                have bz_g40_22 := mz_rd hIg40 bd_137_22
                have ti43 : mz_TI g a1 → mz_TI g40 a1 := fun h => mz_TI_tok (hti h) (fun j hj => (hfg40 140 j nj_18)) (fun j => (hfg40 142 j nj_71)) (fun j => (hfg40 145 j nj_75)) (fun j => (hfg40 146 j nj_76)) (fun j => (hfg40 149 j nj_66)) (by intro hb; omega)
                have kk43 : mz_K1 g g40 := mz_K1_tr (mz_K1_rf _) ⟨(fun j hj => (hfg40 140 j nj_18)), (fun j hj => (hfg40 142 j nj_71)), (fun j hj => (hfg40 149 j nj_66))⟩
                replace hp42 := mz_hd hp42
                refine mm_g 1 (pc1 := 128) (lo1 := [some (.ref 137), some (.int (Int32.ofInt a1)), some (.int (Int32.ofInt v7)), some (.int (Int32.ofInt 0))]) (st1 := [.ref 137]) (H1 := mz_mk g40 x) rfl ?_
                refine mz_bip rfl bip_59 ?_
                have hq44 : g40 137 16 = (g 137 16) := (show g40 137 16 = (g 137 16) from ((hfg40 137 16 nj_12).trans rfl))
                have hq45 : g40 137 17 = (g 137 17) := (show g40 137 17 = (g 137 17) from ((hfg40 137 17 nj_13).trans rfl))
                have hq46 : g40 137 18 = (g 137 18) := (show g40 137 18 = (g 137 18) from ((hfg40 137 18 nj_14).trans rfl))
                have hq47 : g40 137 20 = (g 137 20) := (show g40 137 20 = (g 137 20) from ((hfg40 137 20 nj_15).trans rfl))
                have hq48 : g40 137 21 = (g 137 21) := (show g40 137 21 = (g 137 21) from ((hfg40 137 21 nj_16).trans rfl))
                refine mz_cv rfl mt_12_244 (by decide) (sc_137 _) rfl (Nat.le_of_ble_eq_true rfl) (by omega) (f_X12_mark (by omega) hx hIg40 (by decide) (by decide) (by have h90 := (show g40 137 16 = (g 137 16) from ((hfg40 137 16 nj_12).trans rfl)); have h91 := (show g40 137 17 = (g 137 17) from ((hfg40 137 17 nj_13).trans rfl)); have h92 := (show g40 137 18 = (g 137 18) from ((hfg40 137 18 nj_14).trans rfl)); have h93 := (show g40 137 20 = (g 137 20) from ((hfg40 137 20 nj_15).trans rfl)); have h94 := (show g40 137 21 = (g 137 21) from ((hfg40 137 21 nj_16).trans rfl)); omega) (fun g50 hIg50 hfg50 hp51 hp52 hp53 hp54 hc55 => ⟨_, rfl, ?_⟩))
                show mm_W d mmX12_readLine 133 [some (.ref 137), some (.int (Int32.ofInt a1)), some (.int (Int32.ofInt v7)), some (.int (Int32.ofInt 0))] [] (mz_mk g50 x) Q
                replace hE := zf_t1 hE hc55
                have bz_g50_16 := mz_rd hIg50 bd_137_16
                have hk_g50_17 : g50 137 17 = (g 137 17) := (show g50 137 17 = (g 137 17) from ((hfg50 137 17 nj_59).trans ((hfg40 137 17 nj_13).trans rfl)))
                have bz_g50_18 := mz_rd hIg50 bd_137_18
                have bz_g50_20 := mz_rd hIg50 bd_137_20
                have bz_g50_21 := mz_rd hIg50 bd_137_21
                have bz_g50_22 := mz_rd hIg50 bd_137_22
                have ti55 : mz_TI g a1 → mz_TI g50 a1 := fun h => mz_TI_tok (ti43 h) (fun j hj => (hfg50 140 j nj_60)) (fun j => (hfg50 142 j nj_69)) (fun j => (hfg50 145 j nj_72)) (fun j => (hfg50 146 j nj_73)) (fun j => (hfg50 149 j nj_62)) (by intro hb; omega)
                have kk55 : mz_K1 g g50 := mz_K1_tr kk43 ⟨(fun j hj => (hfg50 140 j nj_60)), (fun j hj => (hfg50 142 j nj_69)), (fun j hj => (hfg50 149 j nj_62))⟩
                have mo_g50 : g 137 20 ≤ g50 137 20 := by omega
                replace p1 := mz_hd p1
                refine mm_g 2 (pc1 := 135) (lo1 := [some (.ref 137), some (.int (Int32.ofInt a1)), some (.int (Int32.ofInt v7)), some (.int (Int32.ofInt 0))]) (st1 := [.int (Int32.ofInt 0), .int (Int32.ofInt a1)]) (H1 := mz_mk g50 x) rfl ?_
                refine mz_ior rfl (fun v56 e_v56 hwv56 => ?_)
                have b_v56 : 0 ≤ v56 ∧ v56 ≤ 3 := by rw [e_v56]; exact mz_or_lt (n := 2) (by decide) (by omega) (by omega) (by omega) (by omega)
                have l_v56 := b_v56.1
                have u_v56 := b_v56.2
                replace hE := zf_tr hE (zf_le e_v56.symm)
                exact mm_rt rfl rfl (hQ _ _ hIg50 (fun k j hk => ((hfg50 k j (fun h => hk (Or.elim h (fun h => (Or.inr (Or.inr (Or.inl h)))) (fun h => (Or.elim h (fun h => (Or.inr (Or.inr (Or.inr (Or.inl h))))) (fun h => (Or.elim h (fun h => (Or.inr (Or.inr (Or.inr (Or.inr (Or.inl h)))))) (fun h => (Or.elim h (fun h => (Or.inr (Or.inr (Or.inr (Or.inr (Or.inr (Or.inl h))))))) (fun h => (Or.elim h (fun h => (Or.inr (Or.inr (Or.inr (Or.inr (Or.inr (Or.inr (Or.inl h)))))))) (fun h => (Or.elim h (fun h => (Or.inl h)) (fun h => (Or.inr (Or.inl h)))))))))))))))).trans (hfg40 k j (fun h => hk (Or.elim h (fun h => (Or.inl h)) (fun h => (Or.inr (Or.inl h)))))))) (by omega) (by omega) (by have h91 := (show g50 137 17 = (g 137 17) from ((hfg50 137 17 nj_59).trans ((hfg40 137 17 nj_13).trans rfl))); omega) (by have h91 := (show g50 137 17 = (g 137 17) from ((hfg50 137 17 nj_59).trans ((hfg40 137 17 nj_13).trans rfl))); omega) (by have h91 := (show g50 137 17 = (g 137 17) from ((hfg50 137 17 nj_59).trans ((hfg40 137 17 nj_13).trans rfl))); omega) (by have h91 := (show g50 137 17 = (g 137 17) from ((hfg50 137 17 nj_59).trans ((hfg40 137 17 nj_13).trans rfl))); omega) (by have h := p2; first | exact mz_TI_d (ti55 h) (by omega) | exact mz_TI_bad (ti55 h) (by omega)) kk55 hE)
              · skip
                replace hE := zf_in hE c112_38
                refine mm_g 1 (pc1 := 116) (lo1 := [some (.ref 137), some (.int (Int32.ofInt a1)), some (.int (Int32.ofInt v7)), some (.int (Int32.ofInt 0))]) (st1 := [.ref 137]) (H1 := mz_mk g x) rfl ?_
                refine mz_cv rfl mt_12_291 (by decide) (sc_137 _) rfl (Nat.le_of_ble_eq_true rfl) (by omega) (f_X12_sayWord (by omega) hx hI (by omega) (fun g67 hIg67 hfg67 hp68 hp69 hp70 hp71 hp72 hp73 hc74 => ⟨_, rfl, ?_⟩))
                show mm_W d mmX12_readLine 119 [some (.ref 137), some (.int (Int32.ofInt a1)), some (.int (Int32.ofInt v7)), some (.int (Int32.ofInt 0))] [] (mz_mk g67 x) Q
                replace hE := zf_t1 hE hc74
                have bz_g67_16 := mz_rd hIg67 bd_137_16
                have hk_g67_17 : g67 137 17 = (g 137 17) := (show g67 137 17 = (g 137 17) from ((hfg67 137 17 nj_77).trans rfl))
                have bz_g67_18 := mz_rd hIg67 bd_137_18
                have bz_g67_20 := mz_rd hIg67 bd_137_20
                have bz_g67_21 := mz_rd hIg67 bd_137_21
                have bz_g67_22 := mz_rd hIg67 bd_137_22
                have bt_g67_4 := mz_rd hIg67 bt_140_4
                have hk_g67_5 : g67 140 5 = (g 140 5) := (show g67 140 5 = (g 140 5) from ((hfg67 140 5 nj_78).trans rfl))
                have hk_g67_6 : g67 140 6 = (g 140 6) := (show g67 140 6 = (g 140 6) from ((hfg67 140 6 nj_79).trans rfl))
                have hk_g67_7 : g67 140 7 = (g 140 7) := (show g67 140 7 = (g 140 7) from ((hfg67 140 7 nj_80).trans rfl))
                have ti74 : mz_TI g a1 → mz_TI g67 a1 := fun h => mz_TI_word (hti h) hp72 (by omega) (hfg67 140 5 nj_78) (hfg67 140 7 nj_80) (fun j => (hfg67 145 j nj_81)) (fun j => (hfg67 146 j nj_82)) (fun j => (hfg67 149 j nj_83)) (by intro hb; omega)
                have kk74 : mz_K1 g g67 := mz_K1_tr (mz_K1_rf _) ⟨(fun j hj => (hfg67 140 j (fun h => (Or.elim h (fun h => (absurd (show 140 = 137 from (h).1) (by decide))) (fun h => (Or.elim h (fun h => (absurd (show 140 = 137 from (h).1) (by decide))) (fun h => (Or.elim h (fun h => (absurd (show 140 = 137 from (h).1) (by decide))) (fun h => (Or.elim h (fun h => (absurd (show 140 = 137 from (h).1) (by decide))) (fun h => (Or.elim h (fun h => (absurd (show 140 = 137 from (h).1) (by decide))) (fun h => (Or.elim h (fun h => (absurd (show 140 = 137 from (h).1) (by decide))) (fun h => (Or.elim h (fun h => (absurd (show 140 = 137 from (h).1) (by decide))) (fun h => (Or.elim h (fun h => (absurd (show 140 = 141 from h) (by decide))) (fun h => (Or.elim h (fun h => (absurd (show 140 = 142 from h) (by decide))) (fun h => (Or.elim h (fun h => (absurd (show 140 = 143 from h) (by decide))) (fun h => (by have h9 : (140 = 140 ∧ j = 4) := h; omega)))))))))))))))))))))))), hp71, (fun j hj => (hfg67 149 j nj_83))⟩
                have mo_g67 : g 137 20 ≤ g67 137 20 := by omega
                replace p1 := mz_hd p1
                refine mz_gt (tgt := 127) rfl rfl ?_
                refine mm_g 1 (pc1 := 128) (lo1 := [some (.ref 137), some (.int (Int32.ofInt a1)), some (.int (Int32.ofInt v7)), some (.int (Int32.ofInt 0))]) (st1 := [.ref 137]) (H1 := mz_mk g67 x) rfl ?_
                refine mz_bip rfl bip_59 ?_
                have hq76 : g67 137 17 = (g 137 17) := (show g67 137 17 = (g 137 17) from ((hfg67 137 17 nj_77).trans rfl))
                refine mz_cv rfl mt_12_244 (by decide) (sc_137 _) rfl (Nat.le_of_ble_eq_true rfl) (by omega) (f_X12_mark (by omega) hx hIg67 (by decide) (by decide) (by have h91 := (show g67 137 17 = (g 137 17) from ((hfg67 137 17 nj_77).trans rfl)); omega) (fun g81 hIg81 hfg81 hp82 hp83 hp84 hp85 hc86 => ⟨_, rfl, ?_⟩))
                show mm_W d mmX12_readLine 133 [some (.ref 137), some (.int (Int32.ofInt a1)), some (.int (Int32.ofInt v7)), some (.int (Int32.ofInt 0))] [] (mz_mk g81 x) Q
                replace hE := zf_t1 hE hc86
                have bz_g81_16 := mz_rd hIg81 bd_137_16
                have hk_g81_17 : g81 137 17 = (g 137 17) := (show g81 137 17 = (g 137 17) from ((hfg81 137 17 nj_59).trans ((hfg67 137 17 nj_77).trans rfl)))
                have bz_g81_18 := mz_rd hIg81 bd_137_18
                have bz_g81_20 := mz_rd hIg81 bd_137_20
                have bz_g81_21 := mz_rd hIg81 bd_137_21
                have bz_g81_22 := mz_rd hIg81 bd_137_22
                have ti86 : mz_TI g a1 → mz_TI g81 a1 := fun h => mz_TI_tok (ti74 h) (fun j hj => (hfg81 140 j nj_60)) (fun j => (hfg81 142 j nj_69)) (fun j => (hfg81 145 j nj_72)) (fun j => (hfg81 146 j nj_73)) (fun j => (hfg81 149 j nj_62)) (by intro hb; omega)
                have kk86 : mz_K1 g g81 := mz_K1_tr kk74 ⟨(fun j hj => (hfg81 140 j nj_60)), (fun j hj => (hfg81 142 j nj_69)), (fun j hj => (hfg81 149 j nj_62))⟩
                have mo_g81 : g 137 20 ≤ g81 137 20 := by omega
                replace hp68 := mz_hd hp68
                refine mm_g 2 (pc1 := 135) (lo1 := [some (.ref 137), some (.int (Int32.ofInt a1)), some (.int (Int32.ofInt v7)), some (.int (Int32.ofInt 0))]) (st1 := [.int (Int32.ofInt 0), .int (Int32.ofInt a1)]) (H1 := mz_mk g81 x) rfl ?_
                refine mz_ior rfl (fun v87 e_v87 hwv87 => ?_)
                have b_v87 : 0 ≤ v87 ∧ v87 ≤ 3 := by rw [e_v87]; exact mz_or_lt (n := 2) (by decide) (by omega) (by omega) (by omega) (by omega)
                have l_v87 := b_v87.1
                have u_v87 := b_v87.2
                replace hE := zf_tr hE (zf_le e_v87.symm)
                exact mm_rt rfl rfl (hQ _ _ hIg81 (fun k j hk => ((hfg81 k j (fun h => hk (Or.elim h (fun h => (Or.inr (Or.inr (Or.inl h)))) (fun h => (Or.elim h (fun h => (Or.inr (Or.inr (Or.inr (Or.inl h))))) (fun h => (Or.elim h (fun h => (Or.inr (Or.inr (Or.inr (Or.inr (Or.inl h)))))) (fun h => (Or.elim h (fun h => (Or.inr (Or.inr (Or.inr (Or.inr (Or.inr (Or.inl h))))))) (fun h => (Or.elim h (fun h => (Or.inr (Or.inr (Or.inr (Or.inr (Or.inr (Or.inr (Or.inl h)))))))) (fun h => (Or.elim h (fun h => (Or.inl h)) (fun h => (Or.inr (Or.inl h)))))))))))))))).trans (hfg67 k j (fun h => hk (Or.elim h (fun h => (Or.inr (Or.inr (Or.inl h)))) (fun h => (Or.elim h (fun h => (Or.inr (Or.inr (Or.inr (Or.inl h))))) (fun h => (Or.elim h (fun h => (Or.inr (Or.inr (Or.inr (Or.inr (Or.inl h)))))) (fun h => (Or.elim h (fun h => (Or.inr (Or.inr (Or.inr (Or.inr (Or.inr (Or.inl h))))))) (fun h => (Or.elim h (fun h => (Or.inr (Or.inr (Or.inr (Or.inr (Or.inr (Or.inr (Or.inl h)))))))) (fun h => (Or.elim h (fun h => (Or.inl h)) (fun h => (Or.elim h (fun h => (Or.inr (Or.inl h))) (fun h => (Or.elim h (fun h => (Or.inr (Or.inr (Or.inr (Or.inr (Or.inr (Or.inr (Or.inr (Or.inl h))))))))) (fun h => (Or.elim h (fun h => (Or.inr (Or.inr (Or.inr (Or.inr (Or.inr (Or.inr (Or.inr (Or.inr (Or.inl h)))))))))) (fun h => (Or.elim h (fun h => (Or.inr (Or.inr (Or.inr (Or.inr (Or.inr (Or.inr (Or.inr (Or.inr (Or.inr (Or.inl h))))))))))) (fun h => (Or.inr (Or.inr (Or.inr (Or.inr (Or.inr (Or.inr (Or.inr (Or.inr (Or.inr (Or.inr (Or.inl h))))))))))))))))))))))))))))))))))) (by omega) (by omega) (by have h91 := (show g81 137 17 = (g 137 17) from ((hfg81 137 17 nj_59).trans ((hfg67 137 17 nj_77).trans rfl))); omega) (by have h91 := (show g81 137 17 = (g 137 17) from ((hfg81 137 17 nj_59).trans ((hfg67 137 17 nj_77).trans rfl))); omega) (by have h91 := (show g81 137 17 = (g 137 17) from ((hfg81 137 17 nj_59).trans ((hfg67 137 17 nj_77).trans rfl))); omega) (by have h91 := (show g81 137 17 = (g 137 17) from ((hfg81 137 17 nj_59).trans ((hfg67 137 17 nj_77).trans rfl))); omega) (by have h := p2; first | exact mz_TI_d (ti86 h) (by omega) | exact mz_TI_bad (ti86 h) (by omega)) kk86 hE)
            · skip
              replace hE := zf_in hE c94_29
              refine mm_g 2 (pc1 := 99) (lo1 := [some (.ref 137), some (.int (Int32.ofInt a1)), some (.int (Int32.ofInt v7)), some (.int (Int32.ofInt 0))]) (st1 := [.int (Int32.ofInt v7), .ref 137]) (H1 := mz_mk g x) rfl ?_
              refine mz_cv rfl mt_12_286 (by decide) (sc_137 _) rfl (Nat.le_of_ble_eq_true rfl) (by omega) (f_X12_sayTrunk (by omega) hx hI (by omega) (by omega) (by omega) (fun g98 hIg98 hfg98 hp99 hp100 hp101 hp102 hc103 => ⟨_, rfl, ?_⟩))
              show mm_W d mmX12_readLine 102 [some (.ref 137), some (.int (Int32.ofInt a1)), some (.int (Int32.ofInt v7)), some (.int (Int32.ofInt 0))] [] (mz_mk g98 x) Q
              replace hE := zf_t1 hE hc103
              have bz_g98_16 := mz_rd hIg98 bd_137_16
              have hk_g98_17 : g98 137 17 = (g 137 17) := (show g98 137 17 = (g 137 17) from ((hfg98 137 17 nj_84).trans rfl))
              have bz_g98_18 := mz_rd hIg98 bd_137_18
              have bz_g98_20 := mz_rd hIg98 bd_137_20
              have bz_g98_21 := mz_rd hIg98 bd_137_21
              have bz_g98_22 := mz_rd hIg98 bd_137_22
              have hk_g98_4 : g98 140 4 = (g 140 4) := (show g98 140 4 = (g 140 4) from ((hfg98 140 4 nj_85).trans rfl))
              have bt_g98_5 := mz_rd hIg98 bt_140_5
              have hk_g98_6 : g98 140 6 = (g 140 6) := (show g98 140 6 = (g 140 6) from ((hfg98 140 6 nj_86).trans rfl))
              have hk_g98_7 : g98 140 7 = (g 140 7) := (show g98 140 7 = (g 140 7) from ((hfg98 140 7 nj_87).trans rfl))
              have ti103 : mz_TI g a1 → mz_TI g98 a1 := fun h => mz_TI_trunk (hti h) hp102 (hfg98 140 4 nj_85) (hfg98 140 7 nj_87) (fun j => (hfg98 142 j nj_88)) (fun j => (hfg98 149 j nj_89)) (by intro hb; omega)
              have kk103 : mz_K1 g g98 := mz_K1_tr (mz_K1_rf _) ⟨(fun j hj => (hfg98 140 j (fun h => (Or.elim h (fun h => (absurd (show 140 = 137 from (h).1) (by decide))) (fun h => (Or.elim h (fun h => (absurd (show 140 = 137 from (h).1) (by decide))) (fun h => (Or.elim h (fun h => (absurd (show 140 = 137 from (h).1) (by decide))) (fun h => (Or.elim h (fun h => (absurd (show 140 = 137 from (h).1) (by decide))) (fun h => (Or.elim h (fun h => (absurd (show 140 = 137 from (h).1) (by decide))) (fun h => (Or.elim h (fun h => (absurd (show 140 = 137 from (h).1) (by decide))) (fun h => (Or.elim h (fun h => (absurd (show 140 = 137 from (h).1) (by decide))) (fun h => (Or.elim h (fun h => (absurd (show 140 = 144 from h) (by decide))) (fun h => (Or.elim h (fun h => (absurd (show 140 = 145 from h) (by decide))) (fun h => (Or.elim h (fun h => (absurd (show 140 = 146 from h) (by decide))) (fun h => (Or.elim h (fun h => (absurd (show 140 = 147 from h) (by decide))) (fun h => (by have h9 : (140 = 140 ∧ j = 5) := h; omega)))))))))))))))))))))))))), (fun j hj => (hfg98 142 j nj_88)), (fun j hj => (hfg98 149 j nj_89))⟩
              have mo_g98 : g 137 20 ≤ g98 137 20 := by omega
              replace p1 := mz_hd p1
              refine mz_gt (tgt := 127) rfl rfl ?_
              refine mm_g 1 (pc1 := 128) (lo1 := [some (.ref 137), some (.int (Int32.ofInt a1)), some (.int (Int32.ofInt v7)), some (.int (Int32.ofInt 0))]) (st1 := [.ref 137]) (H1 := mz_mk g98 x) rfl ?_
              refine mz_bip rfl bip_59 ?_
              have hq105 : g98 137 17 = (g 137 17) := (show g98 137 17 = (g 137 17) from ((hfg98 137 17 nj_84).trans rfl))
              refine mz_cv rfl mt_12_244 (by decide) (sc_137 _) rfl (Nat.le_of_ble_eq_true rfl) (by omega) (f_X12_mark (by omega) hx hIg98 (by decide) (by decide) (by have h91 := (show g98 137 17 = (g 137 17) from ((hfg98 137 17 nj_84).trans rfl)); omega) (fun g110 hIg110 hfg110 hp111 hp112 hp113 hp114 hc115 => ⟨_, rfl, ?_⟩))
              show mm_W d mmX12_readLine 133 [some (.ref 137), some (.int (Int32.ofInt a1)), some (.int (Int32.ofInt v7)), some (.int (Int32.ofInt 0))] [] (mz_mk g110 x) Q
              replace hE := zf_t1 hE hc115
              have bz_g110_16 := mz_rd hIg110 bd_137_16
              have hk_g110_17 : g110 137 17 = (g 137 17) := (show g110 137 17 = (g 137 17) from ((hfg110 137 17 nj_59).trans ((hfg98 137 17 nj_84).trans rfl)))
              have bz_g110_18 := mz_rd hIg110 bd_137_18
              have bz_g110_20 := mz_rd hIg110 bd_137_20
              have bz_g110_21 := mz_rd hIg110 bd_137_21
              have bz_g110_22 := mz_rd hIg110 bd_137_22
              have ti115 : mz_TI g a1 → mz_TI g110 a1 := fun h => mz_TI_tok (ti103 h) (fun j hj => (hfg110 140 j nj_60)) (fun j => (hfg110 142 j nj_69)) (fun j => (hfg110 145 j nj_72)) (fun j => (hfg110 146 j nj_73)) (fun j => (hfg110 149 j nj_62)) (by intro hb; omega)
              have kk115 : mz_K1 g g110 := mz_K1_tr kk103 ⟨(fun j hj => (hfg110 140 j nj_60)), (fun j hj => (hfg110 142 j nj_69)), (fun j hj => (hfg110 149 j nj_62))⟩
              have mo_g110 : g 137 20 ≤ g110 137 20 := by omega
              replace hp99 := mz_hd hp99
              refine mm_g 2 (pc1 := 135) (lo1 := [some (.ref 137), some (.int (Int32.ofInt a1)), some (.int (Int32.ofInt v7)), some (.int (Int32.ofInt 0))]) (st1 := [.int (Int32.ofInt 0), .int (Int32.ofInt a1)]) (H1 := mz_mk g110 x) rfl ?_
              refine mz_ior rfl (fun v116 e_v116 hwv116 => ?_)
              have b_v116 : 0 ≤ v116 ∧ v116 ≤ 3 := by rw [e_v116]; exact mz_or_lt (n := 2) (by decide) (by omega) (by omega) (by omega) (by omega)
              have l_v116 := b_v116.1
              have u_v116 := b_v116.2
              replace hE := zf_tr hE (zf_le e_v116.symm)
              exact mm_rt rfl rfl (hQ _ _ hIg110 (fun k j hk => ((hfg110 k j (fun h => hk (Or.elim h (fun h => (Or.inr (Or.inr (Or.inl h)))) (fun h => (Or.elim h (fun h => (Or.inr (Or.inr (Or.inr (Or.inl h))))) (fun h => (Or.elim h (fun h => (Or.inr (Or.inr (Or.inr (Or.inr (Or.inl h)))))) (fun h => (Or.elim h (fun h => (Or.inr (Or.inr (Or.inr (Or.inr (Or.inr (Or.inl h))))))) (fun h => (Or.elim h (fun h => (Or.inr (Or.inr (Or.inr (Or.inr (Or.inr (Or.inr (Or.inl h)))))))) (fun h => (Or.elim h (fun h => (Or.inl h)) (fun h => (Or.inr (Or.inl h)))))))))))))))).trans (hfg98 k j (fun h => hk (Or.elim h (fun h => (Or.inr (Or.inr (Or.inl h)))) (fun h => (Or.elim h (fun h => (Or.inr (Or.inr (Or.inr (Or.inl h))))) (fun h => (Or.elim h (fun h => (Or.inr (Or.inr (Or.inr (Or.inr (Or.inl h)))))) (fun h => (Or.elim h (fun h => (Or.inr (Or.inr (Or.inr (Or.inr (Or.inr (Or.inl h))))))) (fun h => (Or.elim h (fun h => (Or.inr (Or.inr (Or.inr (Or.inr (Or.inr (Or.inr (Or.inl h)))))))) (fun h => (Or.elim h (fun h => (Or.inl h)) (fun h => (Or.elim h (fun h => (Or.inr (Or.inl h))) (fun h => (Or.elim h (fun h => (Or.inr (Or.inr (Or.inr (Or.inr (Or.inr (Or.inr (Or.inr (Or.inr (Or.inr (Or.inr (Or.inr (Or.inl h))))))))))))) (fun h => (Or.elim h (fun h => (Or.inr (Or.inr (Or.inr (Or.inr (Or.inr (Or.inr (Or.inr (Or.inr (Or.inr (Or.inr (Or.inr (Or.inr (Or.inl h)))))))))))))) (fun h => (Or.elim h (fun h => (Or.inr (Or.inr (Or.inr (Or.inr (Or.inr (Or.inr (Or.inr (Or.inr (Or.inr (Or.inr (Or.inr (Or.inr (Or.inr (Or.inl h))))))))))))))) (fun h => (Or.elim h (fun h => (Or.inr (Or.inr (Or.inr (Or.inr (Or.inr (Or.inr (Or.inr (Or.inr (Or.inr (Or.inr (Or.inr (Or.inr (Or.inr (Or.inr (Or.inl h)))))))))))))))) (fun h => (Or.inr (Or.inr (Or.inr (Or.inr (Or.inr (Or.inr (Or.inr (Or.inr (Or.inr (Or.inr (Or.inr (Or.inr (Or.inr (Or.inr (Or.inr (Or.inl h)))))))))))))))))))))))))))))))))))))))))) (by omega) (by omega) (by have h91 := (show g110 137 17 = (g 137 17) from ((hfg110 137 17 nj_59).trans ((hfg98 137 17 nj_84).trans rfl))); omega) (by have h91 := (show g110 137 17 = (g 137 17) from ((hfg110 137 17 nj_59).trans ((hfg98 137 17 nj_84).trans rfl))); omega) (by have h91 := (show g110 137 17 = (g 137 17) from ((hfg110 137 17 nj_59).trans ((hfg98 137 17 nj_84).trans rfl))); omega) (by have h91 := (show g110 137 17 = (g 137 17) from ((hfg110 137 17 nj_59).trans ((hfg98 137 17 nj_84).trans rfl))); omega) (by have h := p2; first | exact mz_TI_d (ti115 h) (by omega) | exact mz_TI_bad (ti115 h) (by omega)) kk115 hE)
          · exfalso; omega
        · exfalso; omega
      · skip
        replace hE := zf_in hE c41_29
        refine mm_g 2 (pc1 := 46) (lo1 := [some (.ref 137), some (.int (Int32.ofInt a1)), some (.int (Int32.ofInt v7)), some (.int (Int32.ofInt 0))]) (st1 := [.int (Int32.ofInt 5), .ref 137]) (H1 := mz_mk g x) rfl ?_
        refine mz_cv rfl mt_12_224 (by decide) (sc_137 _) rfl (Nat.le_of_ble_eq_true rfl) (by omega) (f_X12_wrong (by omega) hx hI (by decide) (by decide) (fun g118 hIg118 hfg118 hp119 hp120 hc121 => ⟨_, rfl, ?_⟩))
        show mm_W d mmX12_readLine 49 [some (.ref 137), some (.int (Int32.ofInt a1)), some (.int (Int32.ofInt v7)), some (.int (Int32.ofInt 0))] [] (mz_mk g118 x) Q
        replace hE := zf_t1 hE hc121
        have bz_g118_22 := mz_rd hIg118 bd_137_22
        have ti121 : mz_TI g a1 → mz_TI g118 a1 := fun h => mz_TI_tok (hti h) (fun j hj => (hfg118 140 j nj_18)) (fun j => (hfg118 142 j nj_71)) (fun j => (hfg118 145 j nj_75)) (fun j => (hfg118 146 j nj_76)) (fun j => (hfg118 149 j nj_66)) (by intro hb; omega)
        have kk121 : mz_K1 g g118 := mz_K1_tr (mz_K1_rf _) ⟨(fun j hj => (hfg118 140 j nj_18)), (fun j hj => (hfg118 142 j nj_71)), (fun j hj => (hfg118 149 j nj_66))⟩
        replace hp120 := mz_hd hp120
        refine mm_g 2 (pc1 := 51) (lo1 := [some (.ref 137), some (.int (Int32.ofInt a1)), some (.int (Int32.ofInt v7)), some (.int (Int32.ofInt 0))]) (st1 := [.int (Int32.ofInt 1), .int (Int32.ofInt 0)]) (H1 := mz_mk g118 x) rfl ?_
        refine mz_ic_ne (tgt := 68) rfl rfl ⟨by decide, by decide⟩ ⟨by decide, by decide⟩ (fun c51_121 => ?_) (fun c51_121 => ?_)
        · skip
          (try unfold zJ_X12_readLine_37 at hE)
          (try unfold zJ_X12_readLine_49 at hE)
          (try unfold zJ_X12_readLine_127 at hE)
          (try unfold zJ_X12_readLine_68 at hE)
          (try unfold zJ_X12_readLine_92 at hE)
          (try unfold zJ_X12_readLine_37 at hE)
          (try unfold zJ_X12_readLine_49 at hE)
          (try unfold zJ_X12_readLine_127 at hE)
          (try unfold zJ_X12_readLine_68 at hE)
          (try unfold zJ_X12_readLine_92 at hE)
          replace hE := zf_in hE c51_121
          refine mm_g 2 (pc1 := 70) (lo1 := [some (.ref 137), some (.int (Int32.ofInt a1)), some (.int (Int32.ofInt v7)), some (.int (Int32.ofInt 0))]) (st1 := [.int (Int32.ofInt 2), .int (Int32.ofInt 0)]) (H1 := mz_mk g118 x) rfl ?_
          refine mz_ic_ne (tgt := 92) rfl rfl ⟨by decide, by decide⟩ ⟨by decide, by decide⟩ (fun c70_121 => ?_) (fun c70_121 => ?_)
          · skip
            (try unfold zJ_X12_readLine_37 at hE)
            (try unfold zJ_X12_readLine_49 at hE)
            (try unfold zJ_X12_readLine_127 at hE)
            (try unfold zJ_X12_readLine_68 at hE)
            (try unfold zJ_X12_readLine_92 at hE)
            (try unfold zJ_X12_readLine_37 at hE)
            (try unfold zJ_X12_readLine_49 at hE)
            (try unfold zJ_X12_readLine_127 at hE)
            (try unfold zJ_X12_readLine_68 at hE)
            (try unfold zJ_X12_readLine_92 at hE)
            replace hE := zf_in hE c70_121
            refine mm_g 2 (pc1 := 94) (lo1 := [some (.ref 137), some (.int (Int32.ofInt a1)), some (.int (Int32.ofInt v7)), some (.int (Int32.ofInt 0))]) (st1 := [.int (Int32.ofInt (-1)), .int (Int32.ofInt v7)]) (H1 := mz_mk g118 x) rfl ?_
            refine mz_ic_eq (tgt := 105) rfl rfl (mz_rg l_v7 u_v7) ⟨by decide, by decide⟩ (fun c94_121 => ?_) (fun c94_121 => ?_)
            · skip
              replace hE := zf_ip hE c94_121
              refine mm_g 1 (pc1 := 106) (lo1 := [some (.ref 137), some (.int (Int32.ofInt a1)), some (.int (Int32.ofInt v7)), some (.int (Int32.ofInt 0))]) (st1 := [.ref 137]) (H1 := mz_mk g118 x) rfl ?_
              refine mz_ldcSW (j := 27) rfl rfl rfl ?_
              have hq122 : g118 137 16 = (g 137 16) := (show g118 137 16 = (g 137 16) from ((hfg118 137 16 nj_12).trans rfl))
              have hq123 : g118 137 17 = (g 137 17) := (show g118 137 17 = (g 137 17) from ((hfg118 137 17 nj_13).trans rfl))
              have hq124 : g118 137 18 = (g 137 18) := (show g118 137 18 = (g 137 18) from ((hfg118 137 18 nj_14).trans rfl))
              have hq125 : g118 137 20 = (g 137 20) := (show g118 137 20 = (g 137 20) from ((hfg118 137 20 nj_15).trans rfl))
              have hq126 : g118 137 21 = (g 137 21) := (show g118 137 21 = (g 137 21) from ((hfg118 137 21 nj_16).trans rfl))
              refine mz_cv rfl mt_12_217 (by decide) (sc_137 _) rfl (Nat.le_of_ble_eq_true rfl) (by omega) (f_X12_is (by omega) hx hIg118 (by decide) (by have h90 := (show g118 137 16 = (g 137 16) from ((hfg118 137 16 nj_12).trans rfl)); have h91 := (show g118 137 17 = (g 137 17) from ((hfg118 137 17 nj_13).trans rfl)); have h92 := (show g118 137 18 = (g 137 18) from ((hfg118 137 18 nj_14).trans rfl)); have h93 := (show g118 137 20 = (g 137 20) from ((hfg118 137 20 nj_15).trans rfl)); have h94 := (show g118 137 21 = (g 137 21) from ((hfg118 137 21 nj_16).trans rfl)); omega) (fun v128 l_v128 u_v128 hp129 hc130 => ⟨_, rfl, ?_⟩))
              show mm_W d mmX12_readLine 112 [some (.ref 137), some (.int (Int32.ofInt a1)), some (.int (Int32.ofInt v7)), some (.int (Int32.ofInt 0))] [.int (Int32.ofInt v128)] (mz_mk g118 x) Q
              replace hE := zf_t1 hE hc130
              replace hp129 := mz_hd hp129
              refine mz_if_eq (tgt := 122) rfl rfl (mz_rg l_v128 u_v128) (fun c112_130 => ?_) (fun c112_130 => ?_)
              · skip
                replace hE := zf_ip hE c112_130
                refine mm_g 2 (pc1 := 124) (lo1 := [some (.ref 137), some (.int (Int32.ofInt a1)), some (.int (Int32.ofInt v7)), some (.int (Int32.ofInt 0))]) (st1 := [.int (Int32.ofInt 1), .ref 137]) (H1 := mz_mk g118 x) rfl ?_
                refine mz_cv rfl mt_12_224 (by decide) (sc_137 _) rfl (Nat.le_of_ble_eq_true rfl) (by omega) (f_X12_wrong (by omega) hx hIg118 (by decide) (by decide) (fun g132 hIg132 hfg132 hp133 hp134 hc135 => ⟨_, rfl, ?_⟩))
                show mm_W d mmX12_readLine 127 [some (.ref 137), some (.int (Int32.ofInt a1)), some (.int (Int32.ofInt v7)), some (.int (Int32.ofInt 0))] [] (mz_mk g132 x) Q
                replace hE := zf_t1 hE hc135
                have bz_g132_22 := mz_rd hIg132 bd_137_22
                have ti135 : mz_TI g a1 → mz_TI g132 a1 := fun h => mz_TI_tok (ti121 h) (fun j hj => (hfg132 140 j nj_18)) (fun j => (hfg132 142 j nj_71)) (fun j => (hfg132 145 j nj_75)) (fun j => (hfg132 146 j nj_76)) (fun j => (hfg132 149 j nj_66)) (by intro hb; omega)
                have kk135 : mz_K1 g g132 := mz_K1_tr kk121 ⟨(fun j hj => (hfg132 140 j nj_18)), (fun j hj => (hfg132 142 j nj_71)), (fun j hj => (hfg132 149 j nj_66))⟩
                replace hp134 := mz_hd hp134
                refine mm_g 1 (pc1 := 128) (lo1 := [some (.ref 137), some (.int (Int32.ofInt a1)), some (.int (Int32.ofInt v7)), some (.int (Int32.ofInt 0))]) (st1 := [.ref 137]) (H1 := mz_mk g132 x) rfl ?_
                refine mz_bip rfl bip_59 ?_
                have hq136 : g132 137 16 = (g 137 16) := (show g132 137 16 = (g 137 16) from ((hfg132 137 16 nj_12).trans ((hfg118 137 16 nj_12).trans rfl)))
                have hq137 : g132 137 17 = (g 137 17) := (show g132 137 17 = (g 137 17) from ((hfg132 137 17 nj_13).trans ((hfg118 137 17 nj_13).trans rfl)))
                have hq138 : g132 137 18 = (g 137 18) := (show g132 137 18 = (g 137 18) from ((hfg132 137 18 nj_14).trans ((hfg118 137 18 nj_14).trans rfl)))
                have hq139 : g132 137 20 = (g 137 20) := (show g132 137 20 = (g 137 20) from ((hfg132 137 20 nj_15).trans ((hfg118 137 20 nj_15).trans rfl)))
                have hq140 : g132 137 21 = (g 137 21) := (show g132 137 21 = (g 137 21) from ((hfg132 137 21 nj_16).trans ((hfg118 137 21 nj_16).trans rfl)))
                refine mz_cv rfl mt_12_244 (by decide) (sc_137 _) rfl (Nat.le_of_ble_eq_true rfl) (by omega) (f_X12_mark (by omega) hx hIg132 (by decide) (by decide) (by have h90 := (show g132 137 16 = (g 137 16) from ((hfg132 137 16 nj_12).trans ((hfg118 137 16 nj_12).trans rfl))); have h91 := (show g132 137 17 = (g 137 17) from ((hfg132 137 17 nj_13).trans ((hfg118 137 17 nj_13).trans rfl))); have h92 := (show g132 137 18 = (g 137 18) from ((hfg132 137 18 nj_14).trans ((hfg118 137 18 nj_14).trans rfl))); have h93 := (show g132 137 20 = (g 137 20) from ((hfg132 137 20 nj_15).trans ((hfg118 137 20 nj_15).trans rfl))); have h94 := (show g132 137 21 = (g 137 21) from ((hfg132 137 21 nj_16).trans ((hfg118 137 21 nj_16).trans rfl))); omega) (fun g142 hIg142 hfg142 hp143 hp144 hp145 hp146 hc147 => ⟨_, rfl, ?_⟩))
                show mm_W d mmX12_readLine 133 [some (.ref 137), some (.int (Int32.ofInt a1)), some (.int (Int32.ofInt v7)), some (.int (Int32.ofInt 0))] [] (mz_mk g142 x) Q
                replace hE := zf_t1 hE hc147
                have bz_g142_16 := mz_rd hIg142 bd_137_16
                have hk_g142_17 : g142 137 17 = (g 137 17) := (show g142 137 17 = (g 137 17) from ((hfg142 137 17 nj_59).trans ((hfg132 137 17 nj_13).trans ((hfg118 137 17 nj_13).trans rfl))))
                have bz_g142_18 := mz_rd hIg142 bd_137_18
                have bz_g142_20 := mz_rd hIg142 bd_137_20
                have bz_g142_21 := mz_rd hIg142 bd_137_21
                have bz_g142_22 := mz_rd hIg142 bd_137_22
                have ti147 : mz_TI g a1 → mz_TI g142 a1 := fun h => mz_TI_tok (ti135 h) (fun j hj => (hfg142 140 j nj_60)) (fun j => (hfg142 142 j nj_69)) (fun j => (hfg142 145 j nj_72)) (fun j => (hfg142 146 j nj_73)) (fun j => (hfg142 149 j nj_62)) (by intro hb; omega)
                have kk147 : mz_K1 g g142 := mz_K1_tr kk135 ⟨(fun j hj => (hfg142 140 j nj_60)), (fun j hj => (hfg142 142 j nj_69)), (fun j hj => (hfg142 149 j nj_62))⟩
                have mo_g142 : g 137 20 ≤ g142 137 20 := by omega
                replace p1 := mz_hd p1
                refine mm_g 2 (pc1 := 135) (lo1 := [some (.ref 137), some (.int (Int32.ofInt a1)), some (.int (Int32.ofInt v7)), some (.int (Int32.ofInt 0))]) (st1 := [.int (Int32.ofInt 0), .int (Int32.ofInt a1)]) (H1 := mz_mk g142 x) rfl ?_
                refine mz_ior rfl (fun v148 e_v148 hwv148 => ?_)
                have b_v148 : 0 ≤ v148 ∧ v148 ≤ 3 := by rw [e_v148]; exact mz_or_lt (n := 2) (by decide) (by omega) (by omega) (by omega) (by omega)
                have l_v148 := b_v148.1
                have u_v148 := b_v148.2
                replace hE := zf_tr hE (zf_le e_v148.symm)
                exact mm_rt rfl rfl (hQ _ _ hIg142 (fun k j hk => ((hfg142 k j (fun h => hk (Or.elim h (fun h => (Or.inr (Or.inr (Or.inl h)))) (fun h => (Or.elim h (fun h => (Or.inr (Or.inr (Or.inr (Or.inl h))))) (fun h => (Or.elim h (fun h => (Or.inr (Or.inr (Or.inr (Or.inr (Or.inl h)))))) (fun h => (Or.elim h (fun h => (Or.inr (Or.inr (Or.inr (Or.inr (Or.inr (Or.inl h))))))) (fun h => (Or.elim h (fun h => (Or.inr (Or.inr (Or.inr (Or.inr (Or.inr (Or.inr (Or.inl h)))))))) (fun h => (Or.elim h (fun h => (Or.inl h)) (fun h => (Or.inr (Or.inl h)))))))))))))))).trans ((hfg132 k j (fun h => hk (Or.elim h (fun h => (Or.inl h)) (fun h => (Or.inr (Or.inl h)))))).trans (hfg118 k j (fun h => hk (Or.elim h (fun h => (Or.inl h)) (fun h => (Or.inr (Or.inl h))))))))) (by omega) (by omega) (by have h91 := (show g142 137 17 = (g 137 17) from ((hfg142 137 17 nj_59).trans ((hfg132 137 17 nj_13).trans ((hfg118 137 17 nj_13).trans rfl)))); omega) (by have h91 := (show g142 137 17 = (g 137 17) from ((hfg142 137 17 nj_59).trans ((hfg132 137 17 nj_13).trans ((hfg118 137 17 nj_13).trans rfl)))); omega) (by have h91 := (show g142 137 17 = (g 137 17) from ((hfg142 137 17 nj_59).trans ((hfg132 137 17 nj_13).trans ((hfg118 137 17 nj_13).trans rfl)))); omega) (by have h91 := (show g142 137 17 = (g 137 17) from ((hfg142 137 17 nj_59).trans ((hfg132 137 17 nj_13).trans ((hfg118 137 17 nj_13).trans rfl)))); omega) (by have h := p2; first | exact mz_TI_d (ti147 h) (by omega) | exact mz_TI_bad (ti147 h) (by omega)) kk147 hE)
              · skip
                replace hE := zf_in hE c112_130
                refine mm_g 1 (pc1 := 116) (lo1 := [some (.ref 137), some (.int (Int32.ofInt a1)), some (.int (Int32.ofInt v7)), some (.int (Int32.ofInt 0))]) (st1 := [.ref 137]) (H1 := mz_mk g118 x) rfl ?_
                have hq149 : g118 137 16 = (g 137 16) := (show g118 137 16 = (g 137 16) from ((hfg118 137 16 nj_12).trans rfl))
                have hq150 : g118 137 17 = (g 137 17) := (show g118 137 17 = (g 137 17) from ((hfg118 137 17 nj_13).trans rfl))
                have hq151 : g118 137 18 = (g 137 18) := (show g118 137 18 = (g 137 18) from ((hfg118 137 18 nj_14).trans rfl))
                have hq152 : g118 137 20 = (g 137 20) := (show g118 137 20 = (g 137 20) from ((hfg118 137 20 nj_15).trans rfl))
                have hq153 : g118 137 21 = (g 137 21) := (show g118 137 21 = (g 137 21) from ((hfg118 137 21 nj_16).trans rfl))
                have hq155 : g118 140 4 = (g 140 4) := (show g118 140 4 = (g 140 4) from ((hfg118 140 4 nj_18).trans rfl))
                have hq156 : g118 140 5 = (g 140 5) := (show g118 140 5 = (g 140 5) from ((hfg118 140 5 nj_18).trans rfl))
                have hq157 : g118 140 6 = (g 140 6) := (show g118 140 6 = (g 140 6) from ((hfg118 140 6 nj_18).trans rfl))
                have hq158 : g118 140 7 = (g 140 7) := (show g118 140 7 = (g 140 7) from ((hfg118 140 7 nj_18).trans rfl))
                refine mz_cv rfl mt_12_291 (by decide) (sc_137 _) rfl (Nat.le_of_ble_eq_true rfl) (by omega) (f_X12_sayWord (by omega) hx hIg118 (by have h90 := (show g118 137 16 = (g 137 16) from ((hfg118 137 16 nj_12).trans rfl)); have h91 := (show g118 137 17 = (g 137 17) from ((hfg118 137 17 nj_13).trans rfl)); have h92 := (show g118 137 18 = (g 137 18) from ((hfg118 137 18 nj_14).trans rfl)); have h93 := (show g118 137 20 = (g 137 20) from ((hfg118 137 20 nj_15).trans rfl)); have h94 := (show g118 137 21 = (g 137 21) from ((hfg118 137 21 nj_16).trans rfl)); omega) (fun g159 hIg159 hfg159 hp160 hp161 hp162 hp163 hp164 hp165 hc166 => ⟨_, rfl, ?_⟩))
                show mm_W d mmX12_readLine 119 [some (.ref 137), some (.int (Int32.ofInt a1)), some (.int (Int32.ofInt v7)), some (.int (Int32.ofInt 0))] [] (mz_mk g159 x) Q
                replace hE := zf_t1 hE hc166
                have bz_g159_16 := mz_rd hIg159 bd_137_16
                have hk_g159_17 : g159 137 17 = (g 137 17) := (show g159 137 17 = (g 137 17) from ((hfg159 137 17 nj_77).trans ((hfg118 137 17 nj_13).trans rfl)))
                have bz_g159_18 := mz_rd hIg159 bd_137_18
                have bz_g159_20 := mz_rd hIg159 bd_137_20
                have bz_g159_21 := mz_rd hIg159 bd_137_21
                have bz_g159_22 := mz_rd hIg159 bd_137_22
                have bt_g159_4 := mz_rd hIg159 bt_140_4
                have hk_g159_5 : g159 140 5 = (g 140 5) := (show g159 140 5 = (g 140 5) from ((hfg159 140 5 nj_78).trans ((hfg118 140 5 nj_18).trans rfl)))
                have hk_g159_6 : g159 140 6 = (g 140 6) := (show g159 140 6 = (g 140 6) from ((hfg159 140 6 nj_79).trans ((hfg118 140 6 nj_18).trans rfl)))
                have hk_g159_7 : g159 140 7 = (g 140 7) := (show g159 140 7 = (g 140 7) from ((hfg159 140 7 nj_80).trans ((hfg118 140 7 nj_18).trans rfl)))
                have ti166 : mz_TI g a1 → mz_TI g159 a1 := fun h => mz_TI_word (ti121 h) hp164 (by omega) (hfg159 140 5 nj_78) (hfg159 140 7 nj_80) (fun j => (hfg159 145 j nj_81)) (fun j => (hfg159 146 j nj_82)) (fun j => (hfg159 149 j nj_83)) (by intro hb; omega)
                have kk166 : mz_K1 g g159 := mz_K1_tr kk121 ⟨(fun j hj => (hfg159 140 j (fun h => (Or.elim h (fun h => (absurd (show 140 = 137 from (h).1) (by decide))) (fun h => (Or.elim h (fun h => (absurd (show 140 = 137 from (h).1) (by decide))) (fun h => (Or.elim h (fun h => (absurd (show 140 = 137 from (h).1) (by decide))) (fun h => (Or.elim h (fun h => (absurd (show 140 = 137 from (h).1) (by decide))) (fun h => (Or.elim h (fun h => (absurd (show 140 = 137 from (h).1) (by decide))) (fun h => (Or.elim h (fun h => (absurd (show 140 = 137 from (h).1) (by decide))) (fun h => (Or.elim h (fun h => (absurd (show 140 = 137 from (h).1) (by decide))) (fun h => (Or.elim h (fun h => (absurd (show 140 = 141 from h) (by decide))) (fun h => (Or.elim h (fun h => (absurd (show 140 = 142 from h) (by decide))) (fun h => (Or.elim h (fun h => (absurd (show 140 = 143 from h) (by decide))) (fun h => (by have h9 : (140 = 140 ∧ j = 4) := h; omega)))))))))))))))))))))))), hp163, (fun j hj => (hfg159 149 j nj_83))⟩
                have mo_g159 : g 137 20 ≤ g159 137 20 := by omega
                replace p1 := mz_hd p1
                refine mz_gt (tgt := 127) rfl rfl ?_
                refine mm_g 1 (pc1 := 128) (lo1 := [some (.ref 137), some (.int (Int32.ofInt a1)), some (.int (Int32.ofInt v7)), some (.int (Int32.ofInt 0))]) (st1 := [.ref 137]) (H1 := mz_mk g159 x) rfl ?_
                refine mz_bip rfl bip_59 ?_
                have hq168 : g159 137 17 = (g 137 17) := (show g159 137 17 = (g 137 17) from ((hfg159 137 17 nj_77).trans ((hfg118 137 17 nj_13).trans rfl)))
                refine mz_cv rfl mt_12_244 (by decide) (sc_137 _) rfl (Nat.le_of_ble_eq_true rfl) (by omega) (f_X12_mark (by omega) hx hIg159 (by decide) (by decide) (by have h91 := (show g159 137 17 = (g 137 17) from ((hfg159 137 17 nj_77).trans ((hfg118 137 17 nj_13).trans rfl))); omega) (fun g173 hIg173 hfg173 hp174 hp175 hp176 hp177 hc178 => ⟨_, rfl, ?_⟩))
                show mm_W d mmX12_readLine 133 [some (.ref 137), some (.int (Int32.ofInt a1)), some (.int (Int32.ofInt v7)), some (.int (Int32.ofInt 0))] [] (mz_mk g173 x) Q
                replace hE := zf_t1 hE hc178
                have bz_g173_16 := mz_rd hIg173 bd_137_16
                have hk_g173_17 : g173 137 17 = (g 137 17) := (show g173 137 17 = (g 137 17) from ((hfg173 137 17 nj_59).trans ((hfg159 137 17 nj_77).trans ((hfg118 137 17 nj_13).trans rfl))))
                have bz_g173_18 := mz_rd hIg173 bd_137_18
                have bz_g173_20 := mz_rd hIg173 bd_137_20
                have bz_g173_21 := mz_rd hIg173 bd_137_21
                have bz_g173_22 := mz_rd hIg173 bd_137_22
                have ti178 : mz_TI g a1 → mz_TI g173 a1 := fun h => mz_TI_tok (ti166 h) (fun j hj => (hfg173 140 j nj_60)) (fun j => (hfg173 142 j nj_69)) (fun j => (hfg173 145 j nj_72)) (fun j => (hfg173 146 j nj_73)) (fun j => (hfg173 149 j nj_62)) (by intro hb; omega)
                have kk178 : mz_K1 g g173 := mz_K1_tr kk166 ⟨(fun j hj => (hfg173 140 j nj_60)), (fun j hj => (hfg173 142 j nj_69)), (fun j hj => (hfg173 149 j nj_62))⟩
                have mo_g173 : g 137 20 ≤ g173 137 20 := by omega
                replace hp160 := mz_hd hp160
                refine mm_g 2 (pc1 := 135) (lo1 := [some (.ref 137), some (.int (Int32.ofInt a1)), some (.int (Int32.ofInt v7)), some (.int (Int32.ofInt 0))]) (st1 := [.int (Int32.ofInt 0), .int (Int32.ofInt a1)]) (H1 := mz_mk g173 x) rfl ?_
                refine mz_ior rfl (fun v179 e_v179 hwv179 => ?_)
                have b_v179 : 0 ≤ v179 ∧ v179 ≤ 3 := by rw [e_v179]; exact mz_or_lt (n := 2) (by decide) (by omega) (by omega) (by omega) (by omega)
                have l_v179 := b_v179.1
                have u_v179 := b_v179.2
                replace hE := zf_tr hE (zf_le e_v179.symm)
                exact mm_rt rfl rfl (hQ _ _ hIg173 (fun k j hk => ((hfg173 k j (fun h => hk (Or.elim h (fun h => (Or.inr (Or.inr (Or.inl h)))) (fun h => (Or.elim h (fun h => (Or.inr (Or.inr (Or.inr (Or.inl h))))) (fun h => (Or.elim h (fun h => (Or.inr (Or.inr (Or.inr (Or.inr (Or.inl h)))))) (fun h => (Or.elim h (fun h => (Or.inr (Or.inr (Or.inr (Or.inr (Or.inr (Or.inl h))))))) (fun h => (Or.elim h (fun h => (Or.inr (Or.inr (Or.inr (Or.inr (Or.inr (Or.inr (Or.inl h)))))))) (fun h => (Or.elim h (fun h => (Or.inl h)) (fun h => (Or.inr (Or.inl h)))))))))))))))).trans ((hfg159 k j (fun h => hk (Or.elim h (fun h => (Or.inr (Or.inr (Or.inl h)))) (fun h => (Or.elim h (fun h => (Or.inr (Or.inr (Or.inr (Or.inl h))))) (fun h => (Or.elim h (fun h => (Or.inr (Or.inr (Or.inr (Or.inr (Or.inl h)))))) (fun h => (Or.elim h (fun h => (Or.inr (Or.inr (Or.inr (Or.inr (Or.inr (Or.inl h))))))) (fun h => (Or.elim h (fun h => (Or.inr (Or.inr (Or.inr (Or.inr (Or.inr (Or.inr (Or.inl h)))))))) (fun h => (Or.elim h (fun h => (Or.inl h)) (fun h => (Or.elim h (fun h => (Or.inr (Or.inl h))) (fun h => (Or.elim h (fun h => (Or.inr (Or.inr (Or.inr (Or.inr (Or.inr (Or.inr (Or.inr (Or.inl h))))))))) (fun h => (Or.elim h (fun h => (Or.inr (Or.inr (Or.inr (Or.inr (Or.inr (Or.inr (Or.inr (Or.inr (Or.inl h)))))))))) (fun h => (Or.elim h (fun h => (Or.inr (Or.inr (Or.inr (Or.inr (Or.inr (Or.inr (Or.inr (Or.inr (Or.inr (Or.inl h))))))))))) (fun h => (Or.inr (Or.inr (Or.inr (Or.inr (Or.inr (Or.inr (Or.inr (Or.inr (Or.inr (Or.inr (Or.inl h))))))))))))))))))))))))))))))))).trans (hfg118 k j (fun h => hk (Or.elim h (fun h => (Or.inl h)) (fun h => (Or.inr (Or.inl h))))))))) (by omega) (by omega) (by have h91 := (show g173 137 17 = (g 137 17) from ((hfg173 137 17 nj_59).trans ((hfg159 137 17 nj_77).trans ((hfg118 137 17 nj_13).trans rfl)))); omega) (by have h91 := (show g173 137 17 = (g 137 17) from ((hfg173 137 17 nj_59).trans ((hfg159 137 17 nj_77).trans ((hfg118 137 17 nj_13).trans rfl)))); omega) (by have h91 := (show g173 137 17 = (g 137 17) from ((hfg173 137 17 nj_59).trans ((hfg159 137 17 nj_77).trans ((hfg118 137 17 nj_13).trans rfl)))); omega) (by have h91 := (show g173 137 17 = (g 137 17) from ((hfg173 137 17 nj_59).trans ((hfg159 137 17 nj_77).trans ((hfg118 137 17 nj_13).trans rfl)))); omega) (by have h := p2; first | exact mz_TI_d (ti178 h) (by omega) | exact mz_TI_bad (ti178 h) (by omega)) kk178 hE)
            · skip
              replace hE := zf_in hE c94_121
              refine mm_g 2 (pc1 := 99) (lo1 := [some (.ref 137), some (.int (Int32.ofInt a1)), some (.int (Int32.ofInt v7)), some (.int (Int32.ofInt 0))]) (st1 := [.int (Int32.ofInt v7), .ref 137]) (H1 := mz_mk g118 x) rfl ?_
              have hq180 : g118 137 16 = (g 137 16) := (show g118 137 16 = (g 137 16) from ((hfg118 137 16 nj_12).trans rfl))
              have hq181 : g118 137 17 = (g 137 17) := (show g118 137 17 = (g 137 17) from ((hfg118 137 17 nj_13).trans rfl))
              have hq182 : g118 137 18 = (g 137 18) := (show g118 137 18 = (g 137 18) from ((hfg118 137 18 nj_14).trans rfl))
              have hq183 : g118 137 20 = (g 137 20) := (show g118 137 20 = (g 137 20) from ((hfg118 137 20 nj_15).trans rfl))
              have hq184 : g118 137 21 = (g 137 21) := (show g118 137 21 = (g 137 21) from ((hfg118 137 21 nj_16).trans rfl))
              have hq186 : g118 140 4 = (g 140 4) := (show g118 140 4 = (g 140 4) from ((hfg118 140 4 nj_18).trans rfl))
              have hq187 : g118 140 5 = (g 140 5) := (show g118 140 5 = (g 140 5) from ((hfg118 140 5 nj_18).trans rfl))
              have hq188 : g118 140 6 = (g 140 6) := (show g118 140 6 = (g 140 6) from ((hfg118 140 6 nj_18).trans rfl))
              have hq189 : g118 140 7 = (g 140 7) := (show g118 140 7 = (g 140 7) from ((hfg118 140 7 nj_18).trans rfl))
              refine mz_cv rfl mt_12_286 (by decide) (sc_137 _) rfl (Nat.le_of_ble_eq_true rfl) (by omega) (f_X12_sayTrunk (by omega) hx hIg118 (by omega) (by omega) (by have h90 := (show g118 137 16 = (g 137 16) from ((hfg118 137 16 nj_12).trans rfl)); have h91 := (show g118 137 17 = (g 137 17) from ((hfg118 137 17 nj_13).trans rfl)); have h92 := (show g118 137 18 = (g 137 18) from ((hfg118 137 18 nj_14).trans rfl)); have h93 := (show g118 137 20 = (g 137 20) from ((hfg118 137 20 nj_15).trans rfl)); have h94 := (show g118 137 21 = (g 137 21) from ((hfg118 137 21 nj_16).trans rfl)); omega) (fun g190 hIg190 hfg190 hp191 hp192 hp193 hp194 hc195 => ⟨_, rfl, ?_⟩))
              show mm_W d mmX12_readLine 102 [some (.ref 137), some (.int (Int32.ofInt a1)), some (.int (Int32.ofInt v7)), some (.int (Int32.ofInt 0))] [] (mz_mk g190 x) Q
              replace hE := zf_t1 hE hc195
              have bz_g190_16 := mz_rd hIg190 bd_137_16
              have hk_g190_17 : g190 137 17 = (g 137 17) := (show g190 137 17 = (g 137 17) from ((hfg190 137 17 nj_84).trans ((hfg118 137 17 nj_13).trans rfl)))
              have bz_g190_18 := mz_rd hIg190 bd_137_18
              have bz_g190_20 := mz_rd hIg190 bd_137_20
              have bz_g190_21 := mz_rd hIg190 bd_137_21
              have bz_g190_22 := mz_rd hIg190 bd_137_22
              have hk_g190_4 : g190 140 4 = (g 140 4) := (show g190 140 4 = (g 140 4) from ((hfg190 140 4 nj_85).trans ((hfg118 140 4 nj_18).trans rfl)))
              have bt_g190_5 := mz_rd hIg190 bt_140_5
              have hk_g190_6 : g190 140 6 = (g 140 6) := (show g190 140 6 = (g 140 6) from ((hfg190 140 6 nj_86).trans ((hfg118 140 6 nj_18).trans rfl)))
              have hk_g190_7 : g190 140 7 = (g 140 7) := (show g190 140 7 = (g 140 7) from ((hfg190 140 7 nj_87).trans ((hfg118 140 7 nj_18).trans rfl)))
              have ti195 : mz_TI g a1 → mz_TI g190 a1 := fun h => mz_TI_trunk (ti121 h) hp194 (hfg190 140 4 nj_85) (hfg190 140 7 nj_87) (fun j => (hfg190 142 j nj_88)) (fun j => (hfg190 149 j nj_89)) (by intro hb; omega)
              have kk195 : mz_K1 g g190 := mz_K1_tr kk121 ⟨(fun j hj => (hfg190 140 j (fun h => (Or.elim h (fun h => (absurd (show 140 = 137 from (h).1) (by decide))) (fun h => (Or.elim h (fun h => (absurd (show 140 = 137 from (h).1) (by decide))) (fun h => (Or.elim h (fun h => (absurd (show 140 = 137 from (h).1) (by decide))) (fun h => (Or.elim h (fun h => (absurd (show 140 = 137 from (h).1) (by decide))) (fun h => (Or.elim h (fun h => (absurd (show 140 = 137 from (h).1) (by decide))) (fun h => (Or.elim h (fun h => (absurd (show 140 = 137 from (h).1) (by decide))) (fun h => (Or.elim h (fun h => (absurd (show 140 = 137 from (h).1) (by decide))) (fun h => (Or.elim h (fun h => (absurd (show 140 = 144 from h) (by decide))) (fun h => (Or.elim h (fun h => (absurd (show 140 = 145 from h) (by decide))) (fun h => (Or.elim h (fun h => (absurd (show 140 = 146 from h) (by decide))) (fun h => (Or.elim h (fun h => (absurd (show 140 = 147 from h) (by decide))) (fun h => (by have h9 : (140 = 140 ∧ j = 5) := h; omega)))))))))))))))))))))))))), (fun j hj => (hfg190 142 j nj_88)), (fun j hj => (hfg190 149 j nj_89))⟩
              have mo_g190 : g 137 20 ≤ g190 137 20 := by omega
              replace p1 := mz_hd p1
              refine mz_gt (tgt := 127) rfl rfl ?_
              refine mm_g 1 (pc1 := 128) (lo1 := [some (.ref 137), some (.int (Int32.ofInt a1)), some (.int (Int32.ofInt v7)), some (.int (Int32.ofInt 0))]) (st1 := [.ref 137]) (H1 := mz_mk g190 x) rfl ?_
              refine mz_bip rfl bip_59 ?_
              have hq197 : g190 137 17 = (g 137 17) := (show g190 137 17 = (g 137 17) from ((hfg190 137 17 nj_84).trans ((hfg118 137 17 nj_13).trans rfl)))
              refine mz_cv rfl mt_12_244 (by decide) (sc_137 _) rfl (Nat.le_of_ble_eq_true rfl) (by omega) (f_X12_mark (by omega) hx hIg190 (by decide) (by decide) (by have h91 := (show g190 137 17 = (g 137 17) from ((hfg190 137 17 nj_84).trans ((hfg118 137 17 nj_13).trans rfl))); omega) (fun g202 hIg202 hfg202 hp203 hp204 hp205 hp206 hc207 => ⟨_, rfl, ?_⟩))
              show mm_W d mmX12_readLine 133 [some (.ref 137), some (.int (Int32.ofInt a1)), some (.int (Int32.ofInt v7)), some (.int (Int32.ofInt 0))] [] (mz_mk g202 x) Q
              replace hE := zf_t1 hE hc207
              have bz_g202_16 := mz_rd hIg202 bd_137_16
              have hk_g202_17 : g202 137 17 = (g 137 17) := (show g202 137 17 = (g 137 17) from ((hfg202 137 17 nj_59).trans ((hfg190 137 17 nj_84).trans ((hfg118 137 17 nj_13).trans rfl))))
              have bz_g202_18 := mz_rd hIg202 bd_137_18
              have bz_g202_20 := mz_rd hIg202 bd_137_20
              have bz_g202_21 := mz_rd hIg202 bd_137_21
              have bz_g202_22 := mz_rd hIg202 bd_137_22
              have ti207 : mz_TI g a1 → mz_TI g202 a1 := fun h => mz_TI_tok (ti195 h) (fun j hj => (hfg202 140 j nj_60)) (fun j => (hfg202 142 j nj_69)) (fun j => (hfg202 145 j nj_72)) (fun j => (hfg202 146 j nj_73)) (fun j => (hfg202 149 j nj_62)) (by intro hb; omega)
              have kk207 : mz_K1 g g202 := mz_K1_tr kk195 ⟨(fun j hj => (hfg202 140 j nj_60)), (fun j hj => (hfg202 142 j nj_69)), (fun j hj => (hfg202 149 j nj_62))⟩
              have mo_g202 : g 137 20 ≤ g202 137 20 := by omega
              replace hp191 := mz_hd hp191
              refine mm_g 2 (pc1 := 135) (lo1 := [some (.ref 137), some (.int (Int32.ofInt a1)), some (.int (Int32.ofInt v7)), some (.int (Int32.ofInt 0))]) (st1 := [.int (Int32.ofInt 0), .int (Int32.ofInt a1)]) (H1 := mz_mk g202 x) rfl ?_
              refine mz_ior rfl (fun v208 e_v208 hwv208 => ?_)
              have b_v208 : 0 ≤ v208 ∧ v208 ≤ 3 := by rw [e_v208]; exact mz_or_lt (n := 2) (by decide) (by omega) (by omega) (by omega) (by omega)
              have l_v208 := b_v208.1
              have u_v208 := b_v208.2
              replace hE := zf_tr hE (zf_le e_v208.symm)
              exact mm_rt rfl rfl (hQ _ _ hIg202 (fun k j hk => ((hfg202 k j (fun h => hk (Or.elim h (fun h => (Or.inr (Or.inr (Or.inl h)))) (fun h => (Or.elim h (fun h => (Or.inr (Or.inr (Or.inr (Or.inl h))))) (fun h => (Or.elim h (fun h => (Or.inr (Or.inr (Or.inr (Or.inr (Or.inl h)))))) (fun h => (Or.elim h (fun h => (Or.inr (Or.inr (Or.inr (Or.inr (Or.inr (Or.inl h))))))) (fun h => (Or.elim h (fun h => (Or.inr (Or.inr (Or.inr (Or.inr (Or.inr (Or.inr (Or.inl h)))))))) (fun h => (Or.elim h (fun h => (Or.inl h)) (fun h => (Or.inr (Or.inl h)))))))))))))))).trans ((hfg190 k j (fun h => hk (Or.elim h (fun h => (Or.inr (Or.inr (Or.inl h)))) (fun h => (Or.elim h (fun h => (Or.inr (Or.inr (Or.inr (Or.inl h))))) (fun h => (Or.elim h (fun h => (Or.inr (Or.inr (Or.inr (Or.inr (Or.inl h)))))) (fun h => (Or.elim h (fun h => (Or.inr (Or.inr (Or.inr (Or.inr (Or.inr (Or.inl h))))))) (fun h => (Or.elim h (fun h => (Or.inr (Or.inr (Or.inr (Or.inr (Or.inr (Or.inr (Or.inl h)))))))) (fun h => (Or.elim h (fun h => (Or.inl h)) (fun h => (Or.elim h (fun h => (Or.inr (Or.inl h))) (fun h => (Or.elim h (fun h => (Or.inr (Or.inr (Or.inr (Or.inr (Or.inr (Or.inr (Or.inr (Or.inr (Or.inr (Or.inr (Or.inr (Or.inl h))))))))))))) (fun h => (Or.elim h (fun h => (Or.inr (Or.inr (Or.inr (Or.inr (Or.inr (Or.inr (Or.inr (Or.inr (Or.inr (Or.inr (Or.inr (Or.inr (Or.inl h)))))))))))))) (fun h => (Or.elim h (fun h => (Or.inr (Or.inr (Or.inr (Or.inr (Or.inr (Or.inr (Or.inr (Or.inr (Or.inr (Or.inr (Or.inr (Or.inr (Or.inr (Or.inl h))))))))))))))) (fun h => (Or.elim h (fun h => (Or.inr (Or.inr (Or.inr (Or.inr (Or.inr (Or.inr (Or.inr (Or.inr (Or.inr (Or.inr (Or.inr (Or.inr (Or.inr (Or.inr (Or.inl h)))))))))))))))) (fun h => (Or.inr (Or.inr (Or.inr (Or.inr (Or.inr (Or.inr (Or.inr (Or.inr (Or.inr (Or.inr (Or.inr (Or.inr (Or.inr (Or.inr (Or.inr (Or.inl h)))))))))))))))))))))))))))))))))))))))).trans (hfg118 k j (fun h => hk (Or.elim h (fun h => (Or.inl h)) (fun h => (Or.inr (Or.inl h))))))))) (by omega) (by omega) (by have h91 := (show g202 137 17 = (g 137 17) from ((hfg202 137 17 nj_59).trans ((hfg190 137 17 nj_84).trans ((hfg118 137 17 nj_13).trans rfl)))); omega) (by have h91 := (show g202 137 17 = (g 137 17) from ((hfg202 137 17 nj_59).trans ((hfg190 137 17 nj_84).trans ((hfg118 137 17 nj_13).trans rfl)))); omega) (by have h91 := (show g202 137 17 = (g 137 17) from ((hfg202 137 17 nj_59).trans ((hfg190 137 17 nj_84).trans ((hfg118 137 17 nj_13).trans rfl)))); omega) (by have h91 := (show g202 137 17 = (g 137 17) from ((hfg202 137 17 nj_59).trans ((hfg190 137 17 nj_84).trans ((hfg118 137 17 nj_13).trans rfl)))); omega) (by have h := p2; first | exact mz_TI_d (ti207 h) (by omega) | exact mz_TI_bad (ti207 h) (by omega)) kk207 hE)
          · exfalso; omega
        · exfalso; omega
    · skip
      replace hE := zf_in hE c29_28
      refine mm_g 1 (pc1 := 33) (lo1 := [some (.ref 137), some (.int (Int32.ofInt a1)), some (.int (Int32.ofInt v7)), none]) (st1 := [.int (Int32.ofInt 2)]) (H1 := mz_mk g x) rfl ?_
      refine mz_gt (tgt := 37) rfl rfl ?_
      refine mm_g 3 (pc1 := 40) (lo1 := [some (.ref 137), some (.int (Int32.ofInt a1)), some (.int (Int32.ofInt v7)), some (.int (Int32.ofInt 2))]) (st1 := [.int (Int32.ofInt a1), .int (Int32.ofInt 2)]) (H1 := mz_mk g x) rfl ?_
      refine mz_iand rfl (fun v209 e_v209 hwv209 => ?_)
      have b_v209 : 0 ≤ v209 ∧ v209 ≤ 3 := by rw [e_v209]; exact mz_and_r (by omega) (by omega) ⟨by decide, by decide⟩
      have l_v209 := b_v209.1
      have u_v209 := b_v209.2
      have w_v209 : v209 ≤ a1 := by rw [e_v209]; exact (mz_and_r (hi := a1) (by omega) (Int.le_refl _) ⟨by decide, by decide⟩ (by omega)).2
      replace hE := zf_tr hE (zf_le e_v209.symm)
      have kd_v209 := mz_kd2 l_a1 u_a1
      rw [← e_v209] at kd_v209
      refine mz_if_eq (tgt := 49) rfl rfl (mz_rg l_v209 u_v209) (fun c41_209 => ?_) (fun c41_209 => ?_)
      · skip
        replace hE := zf_ip hE c41_209
        refine mm_g 2 (pc1 := 51) (lo1 := [some (.ref 137), some (.int (Int32.ofInt a1)), some (.int (Int32.ofInt v7)), some (.int (Int32.ofInt 2))]) (st1 := [.int (Int32.ofInt 1), .int (Int32.ofInt 2)]) (H1 := mz_mk g x) rfl ?_
        refine mz_ic_ne (tgt := 68) rfl rfl ⟨by decide, by decide⟩ ⟨by decide, by decide⟩ (fun c51_209 => ?_) (fun c51_209 => ?_)
        · skip
          (try unfold zJ_X12_readLine_37 at hE)
          (try unfold zJ_X12_readLine_49 at hE)
          (try unfold zJ_X12_readLine_127 at hE)
          (try unfold zJ_X12_readLine_68 at hE)
          (try unfold zJ_X12_readLine_92 at hE)
          (try unfold zJ_X12_readLine_37 at hE)
          (try unfold zJ_X12_readLine_49 at hE)
          (try unfold zJ_X12_readLine_127 at hE)
          (try unfold zJ_X12_readLine_68 at hE)
          (try unfold zJ_X12_readLine_92 at hE)
          replace hE := zf_in hE c51_209
          refine mm_g 2 (pc1 := 70) (lo1 := [some (.ref 137), some (.int (Int32.ofInt a1)), some (.int (Int32.ofInt v7)), some (.int (Int32.ofInt 2))]) (st1 := [.int (Int32.ofInt 2), .int (Int32.ofInt 2)]) (H1 := mz_mk g x) rfl ?_
          refine mz_ic_ne (tgt := 92) rfl rfl ⟨by decide, by decide⟩ ⟨by decide, by decide⟩ (fun c70_209 => ?_) (fun c70_209 => ?_)
          · exfalso; omega
          · skip
            (try unfold zJ_X12_readLine_37 at hE)
            (try unfold zJ_X12_readLine_49 at hE)
            (try unfold zJ_X12_readLine_127 at hE)
            (try unfold zJ_X12_readLine_68 at hE)
            (try unfold zJ_X12_readLine_92 at hE)
            (try unfold zJ_X12_readLine_37 at hE)
            (try unfold zJ_X12_readLine_49 at hE)
            (try unfold zJ_X12_readLine_127 at hE)
            (try unfold zJ_X12_readLine_68 at hE)
            (try unfold zJ_X12_readLine_92 at hE)
            replace hE := zf_ip hE c70_209
            refine mm_g 1 (pc1 := 74) (lo1 := [some (.ref 137), some (.int (Int32.ofInt a1)), some (.int (Int32.ofInt v7)), some (.int (Int32.ofInt 2))]) (st1 := [.ref 137]) (H1 := mz_mk g x) rfl ?_
            refine mz_fgI (v := (g 137 22)) rfl fd_12_203 (by decide) (sc_137 _) (show g 137 22 = (g 137 22) from rfl) ?_
            replace hE := zf_tr hE (zf_le (show g 137 22 = (g 137 22) from rfl))
            refine mz_if_ne (tgt := 92) rfl rfl ⟨by omega, by omega⟩ (fun c77_209 => ?_) (fun c77_209 => ?_)
            · skip
              replace hE := zf_in hE c77_209
              refine mm_g 2 (pc1 := 94) (lo1 := [some (.ref 137), some (.int (Int32.ofInt a1)), some (.int (Int32.ofInt v7)), some (.int (Int32.ofInt 2))]) (st1 := [.int (Int32.ofInt (-1)), .int (Int32.ofInt v7)]) (H1 := mz_mk g x) rfl ?_
              refine mz_ic_eq (tgt := 105) rfl rfl (mz_rg l_v7 u_v7) ⟨by decide, by decide⟩ (fun c94_209 => ?_) (fun c94_209 => ?_)
              · skip
                replace hE := zf_ip hE c94_209
                refine mm_g 1 (pc1 := 106) (lo1 := [some (.ref 137), some (.int (Int32.ofInt a1)), some (.int (Int32.ofInt v7)), some (.int (Int32.ofInt 2))]) (st1 := [.ref 137]) (H1 := mz_mk g x) rfl ?_
                refine mz_ldcSW (j := 27) rfl rfl rfl ?_
                refine mz_cv rfl mt_12_217 (by decide) (sc_137 _) rfl (Nat.le_of_ble_eq_true rfl) (by omega) (f_X12_is (by omega) hx hI (by decide) (by omega) (fun v216 l_v216 u_v216 hp217 hc218 => ⟨_, rfl, ?_⟩))
                show mm_W d mmX12_readLine 112 [some (.ref 137), some (.int (Int32.ofInt a1)), some (.int (Int32.ofInt v7)), some (.int (Int32.ofInt 2))] [.int (Int32.ofInt v216)] (mz_mk g x) Q
                replace hE := zf_t1 hE hc218
                replace hp217 := mz_hd hp217
                refine mz_if_eq (tgt := 122) rfl rfl (mz_rg l_v216 u_v216) (fun c112_218 => ?_) (fun c112_218 => ?_)
                · skip
                  replace hE := zf_ip hE c112_218
                  refine mm_g 2 (pc1 := 124) (lo1 := [some (.ref 137), some (.int (Int32.ofInt a1)), some (.int (Int32.ofInt v7)), some (.int (Int32.ofInt 2))]) (st1 := [.int (Int32.ofInt 1), .ref 137]) (H1 := mz_mk g x) rfl ?_
                  refine mz_cv rfl mt_12_224 (by decide) (sc_137 _) rfl (Nat.le_of_ble_eq_true rfl) (by omega) (f_X12_wrong (by omega) hx hI (by decide) (by decide) (fun g220 hIg220 hfg220 hp221 hp222 hc223 => ⟨_, rfl, ?_⟩))
                  show mm_W d mmX12_readLine 127 [some (.ref 137), some (.int (Int32.ofInt a1)), some (.int (Int32.ofInt v7)), some (.int (Int32.ofInt 2))] [] (mz_mk g220 x) Q
                  replace hE := zf_t1 hE hc223
                  have bz_g220_22 := mz_rd hIg220 bd_137_22
                  have ti223 : mz_TI g a1 → mz_TI g220 a1 := fun h => mz_TI_tok (hti h) (fun j hj => (hfg220 140 j nj_18)) (fun j => (hfg220 142 j nj_71)) (fun j => (hfg220 145 j nj_75)) (fun j => (hfg220 146 j nj_76)) (fun j => (hfg220 149 j nj_66)) (by intro hb; omega)
                  have kk223 : mz_K1 g g220 := mz_K1_tr (mz_K1_rf _) ⟨(fun j hj => (hfg220 140 j nj_18)), (fun j hj => (hfg220 142 j nj_71)), (fun j hj => (hfg220 149 j nj_66))⟩
                  replace hp222 := mz_hd hp222
                  refine mm_g 1 (pc1 := 128) (lo1 := [some (.ref 137), some (.int (Int32.ofInt a1)), some (.int (Int32.ofInt v7)), some (.int (Int32.ofInt 2))]) (st1 := [.ref 137]) (H1 := mz_mk g220 x) rfl ?_
                  refine mz_bip rfl bip_59 ?_
                  have hq224 : g220 137 16 = (g 137 16) := (show g220 137 16 = (g 137 16) from ((hfg220 137 16 nj_12).trans rfl))
                  have hq225 : g220 137 17 = (g 137 17) := (show g220 137 17 = (g 137 17) from ((hfg220 137 17 nj_13).trans rfl))
                  have hq226 : g220 137 18 = (g 137 18) := (show g220 137 18 = (g 137 18) from ((hfg220 137 18 nj_14).trans rfl))
                  have hq227 : g220 137 20 = (g 137 20) := (show g220 137 20 = (g 137 20) from ((hfg220 137 20 nj_15).trans rfl))
                  have hq228 : g220 137 21 = (g 137 21) := (show g220 137 21 = (g 137 21) from ((hfg220 137 21 nj_16).trans rfl))
                  refine mz_cv rfl mt_12_244 (by decide) (sc_137 _) rfl (Nat.le_of_ble_eq_true rfl) (by omega) (f_X12_mark (by omega) hx hIg220 (by decide) (by decide) (by have h90 := (show g220 137 16 = (g 137 16) from ((hfg220 137 16 nj_12).trans rfl)); have h91 := (show g220 137 17 = (g 137 17) from ((hfg220 137 17 nj_13).trans rfl)); have h92 := (show g220 137 18 = (g 137 18) from ((hfg220 137 18 nj_14).trans rfl)); have h93 := (show g220 137 20 = (g 137 20) from ((hfg220 137 20 nj_15).trans rfl)); have h94 := (show g220 137 21 = (g 137 21) from ((hfg220 137 21 nj_16).trans rfl)); omega) (fun g230 hIg230 hfg230 hp231 hp232 hp233 hp234 hc235 => ⟨_, rfl, ?_⟩))
                  show mm_W d mmX12_readLine 133 [some (.ref 137), some (.int (Int32.ofInt a1)), some (.int (Int32.ofInt v7)), some (.int (Int32.ofInt 2))] [] (mz_mk g230 x) Q
                  replace hE := zf_t1 hE hc235
                  have bz_g230_16 := mz_rd hIg230 bd_137_16
                  have hk_g230_17 : g230 137 17 = (g 137 17) := (show g230 137 17 = (g 137 17) from ((hfg230 137 17 nj_59).trans ((hfg220 137 17 nj_13).trans rfl)))
                  have bz_g230_18 := mz_rd hIg230 bd_137_18
                  have bz_g230_20 := mz_rd hIg230 bd_137_20
                  have bz_g230_21 := mz_rd hIg230 bd_137_21
                  have bz_g230_22 := mz_rd hIg230 bd_137_22
                  have ti235 : mz_TI g a1 → mz_TI g230 a1 := fun h => mz_TI_tok (ti223 h) (fun j hj => (hfg230 140 j nj_60)) (fun j => (hfg230 142 j nj_69)) (fun j => (hfg230 145 j nj_72)) (fun j => (hfg230 146 j nj_73)) (fun j => (hfg230 149 j nj_62)) (by intro hb; omega)
                  have kk235 : mz_K1 g g230 := mz_K1_tr kk223 ⟨(fun j hj => (hfg230 140 j nj_60)), (fun j hj => (hfg230 142 j nj_69)), (fun j hj => (hfg230 149 j nj_62))⟩
                  have mo_g230 : g 137 20 ≤ g230 137 20 := by omega
                  replace p1 := mz_hd p1
                  refine mm_g 2 (pc1 := 135) (lo1 := [some (.ref 137), some (.int (Int32.ofInt a1)), some (.int (Int32.ofInt v7)), some (.int (Int32.ofInt 2))]) (st1 := [.int (Int32.ofInt 2), .int (Int32.ofInt a1)]) (H1 := mz_mk g230 x) rfl ?_
                  refine mz_ior rfl (fun v236 e_v236 hwv236 => ?_)
                  have b_v236 : 0 ≤ v236 ∧ v236 ≤ 3 := by rw [e_v236]; exact mz_or_lt (n := 2) (by decide) (by omega) (by omega) (by omega) (by omega)
                  have l_v236 := b_v236.1
                  have u_v236 := b_v236.2
                  replace hE := zf_tr hE (zf_le e_v236.symm)
                  exact mm_rt rfl rfl (hQ _ _ hIg230 (fun k j hk => ((hfg230 k j (fun h => hk (Or.elim h (fun h => (Or.inr (Or.inr (Or.inl h)))) (fun h => (Or.elim h (fun h => (Or.inr (Or.inr (Or.inr (Or.inl h))))) (fun h => (Or.elim h (fun h => (Or.inr (Or.inr (Or.inr (Or.inr (Or.inl h)))))) (fun h => (Or.elim h (fun h => (Or.inr (Or.inr (Or.inr (Or.inr (Or.inr (Or.inl h))))))) (fun h => (Or.elim h (fun h => (Or.inr (Or.inr (Or.inr (Or.inr (Or.inr (Or.inr (Or.inl h)))))))) (fun h => (Or.elim h (fun h => (Or.inl h)) (fun h => (Or.inr (Or.inl h)))))))))))))))).trans (hfg220 k j (fun h => hk (Or.elim h (fun h => (Or.inl h)) (fun h => (Or.inr (Or.inl h)))))))) (by omega) (by omega) (by have h91 := (show g230 137 17 = (g 137 17) from ((hfg230 137 17 nj_59).trans ((hfg220 137 17 nj_13).trans rfl))); omega) (by have h91 := (show g230 137 17 = (g 137 17) from ((hfg230 137 17 nj_59).trans ((hfg220 137 17 nj_13).trans rfl))); omega) (by have h91 := (show g230 137 17 = (g 137 17) from ((hfg230 137 17 nj_59).trans ((hfg220 137 17 nj_13).trans rfl))); omega) (by have h91 := (show g230 137 17 = (g 137 17) from ((hfg230 137 17 nj_59).trans ((hfg220 137 17 nj_13).trans rfl))); omega) (by have h := p2; first | exact mz_TI_d (ti235 h) (by omega) | exact mz_TI_bad (ti235 h) (by omega)) kk235 hE)
                · skip
                  replace hE := zf_in hE c112_218
                  refine mm_g 1 (pc1 := 116) (lo1 := [some (.ref 137), some (.int (Int32.ofInt a1)), some (.int (Int32.ofInt v7)), some (.int (Int32.ofInt 2))]) (st1 := [.ref 137]) (H1 := mz_mk g x) rfl ?_
                  refine mz_cv rfl mt_12_291 (by decide) (sc_137 _) rfl (Nat.le_of_ble_eq_true rfl) (by omega) (f_X12_sayWord (by omega) hx hI (by omega) (fun g247 hIg247 hfg247 hp248 hp249 hp250 hp251 hp252 hp253 hc254 => ⟨_, rfl, ?_⟩))
                  show mm_W d mmX12_readLine 119 [some (.ref 137), some (.int (Int32.ofInt a1)), some (.int (Int32.ofInt v7)), some (.int (Int32.ofInt 2))] [] (mz_mk g247 x) Q
                  replace hE := zf_t1 hE hc254
                  have bz_g247_16 := mz_rd hIg247 bd_137_16
                  have hk_g247_17 : g247 137 17 = (g 137 17) := (show g247 137 17 = (g 137 17) from ((hfg247 137 17 nj_77).trans rfl))
                  have bz_g247_18 := mz_rd hIg247 bd_137_18
                  have bz_g247_20 := mz_rd hIg247 bd_137_20
                  have bz_g247_21 := mz_rd hIg247 bd_137_21
                  have bz_g247_22 := mz_rd hIg247 bd_137_22
                  have bt_g247_4 := mz_rd hIg247 bt_140_4
                  have hk_g247_5 : g247 140 5 = (g 140 5) := (show g247 140 5 = (g 140 5) from ((hfg247 140 5 nj_78).trans rfl))
                  have hk_g247_6 : g247 140 6 = (g 140 6) := (show g247 140 6 = (g 140 6) from ((hfg247 140 6 nj_79).trans rfl))
                  have hk_g247_7 : g247 140 7 = (g 140 7) := (show g247 140 7 = (g 140 7) from ((hfg247 140 7 nj_80).trans rfl))
                  have ti254 : mz_TI g a1 → mz_TI g247 a1 := fun h => mz_TI_word (hti h) hp252 (by omega) (hfg247 140 5 nj_78) (hfg247 140 7 nj_80) (fun j => (hfg247 145 j nj_81)) (fun j => (hfg247 146 j nj_82)) (fun j => (hfg247 149 j nj_83)) (by intro hb; omega)
                  have kk254 : mz_K1 g g247 := mz_K1_tr (mz_K1_rf _) ⟨(fun j hj => (hfg247 140 j (fun h => (Or.elim h (fun h => (absurd (show 140 = 137 from (h).1) (by decide))) (fun h => (Or.elim h (fun h => (absurd (show 140 = 137 from (h).1) (by decide))) (fun h => (Or.elim h (fun h => (absurd (show 140 = 137 from (h).1) (by decide))) (fun h => (Or.elim h (fun h => (absurd (show 140 = 137 from (h).1) (by decide))) (fun h => (Or.elim h (fun h => (absurd (show 140 = 137 from (h).1) (by decide))) (fun h => (Or.elim h (fun h => (absurd (show 140 = 137 from (h).1) (by decide))) (fun h => (Or.elim h (fun h => (absurd (show 140 = 137 from (h).1) (by decide))) (fun h => (Or.elim h (fun h => (absurd (show 140 = 141 from h) (by decide))) (fun h => (Or.elim h (fun h => (absurd (show 140 = 142 from h) (by decide))) (fun h => (Or.elim h (fun h => (absurd (show 140 = 143 from h) (by decide))) (fun h => (by have h9 : (140 = 140 ∧ j = 4) := h; omega)))))))))))))))))))))))), hp251, (fun j hj => (hfg247 149 j nj_83))⟩
                  have mo_g247 : g 137 20 ≤ g247 137 20 := by omega
                  replace p1 := mz_hd p1
                  refine mz_gt (tgt := 127) rfl rfl ?_
                  refine mm_g 1 (pc1 := 128) (lo1 := [some (.ref 137), some (.int (Int32.ofInt a1)), some (.int (Int32.ofInt v7)), some (.int (Int32.ofInt 2))]) (st1 := [.ref 137]) (H1 := mz_mk g247 x) rfl ?_
                  refine mz_bip rfl bip_59 ?_
                  have hq256 : g247 137 17 = (g 137 17) := (show g247 137 17 = (g 137 17) from ((hfg247 137 17 nj_77).trans rfl))
                  refine mz_cv rfl mt_12_244 (by decide) (sc_137 _) rfl (Nat.le_of_ble_eq_true rfl) (by omega) (f_X12_mark (by omega) hx hIg247 (by decide) (by decide) (by have h91 := (show g247 137 17 = (g 137 17) from ((hfg247 137 17 nj_77).trans rfl)); omega) (fun g261 hIg261 hfg261 hp262 hp263 hp264 hp265 hc266 => ⟨_, rfl, ?_⟩))
                  show mm_W d mmX12_readLine 133 [some (.ref 137), some (.int (Int32.ofInt a1)), some (.int (Int32.ofInt v7)), some (.int (Int32.ofInt 2))] [] (mz_mk g261 x) Q
                  replace hE := zf_t1 hE hc266
                  have bz_g261_16 := mz_rd hIg261 bd_137_16
                  have hk_g261_17 : g261 137 17 = (g 137 17) := (show g261 137 17 = (g 137 17) from ((hfg261 137 17 nj_59).trans ((hfg247 137 17 nj_77).trans rfl)))
                  have bz_g261_18 := mz_rd hIg261 bd_137_18
                  have bz_g261_20 := mz_rd hIg261 bd_137_20
                  have bz_g261_21 := mz_rd hIg261 bd_137_21
                  have bz_g261_22 := mz_rd hIg261 bd_137_22
                  have ti266 : mz_TI g a1 → mz_TI g261 a1 := fun h => mz_TI_tok (ti254 h) (fun j hj => (hfg261 140 j nj_60)) (fun j => (hfg261 142 j nj_69)) (fun j => (hfg261 145 j nj_72)) (fun j => (hfg261 146 j nj_73)) (fun j => (hfg261 149 j nj_62)) (by intro hb; omega)
                  have kk266 : mz_K1 g g261 := mz_K1_tr kk254 ⟨(fun j hj => (hfg261 140 j nj_60)), (fun j hj => (hfg261 142 j nj_69)), (fun j hj => (hfg261 149 j nj_62))⟩
                  have mo_g261 : g 137 20 ≤ g261 137 20 := by omega
                  replace hp248 := mz_hd hp248
                  refine mm_g 2 (pc1 := 135) (lo1 := [some (.ref 137), some (.int (Int32.ofInt a1)), some (.int (Int32.ofInt v7)), some (.int (Int32.ofInt 2))]) (st1 := [.int (Int32.ofInt 2), .int (Int32.ofInt a1)]) (H1 := mz_mk g261 x) rfl ?_
                  refine mz_ior rfl (fun v267 e_v267 hwv267 => ?_)
                  have b_v267 : 0 ≤ v267 ∧ v267 ≤ 3 := by rw [e_v267]; exact mz_or_lt (n := 2) (by decide) (by omega) (by omega) (by omega) (by omega)
                  have l_v267 := b_v267.1
                  have u_v267 := b_v267.2
                  replace hE := zf_tr hE (zf_le e_v267.symm)
                  exact mm_rt rfl rfl (hQ _ _ hIg261 (fun k j hk => ((hfg261 k j (fun h => hk (Or.elim h (fun h => (Or.inr (Or.inr (Or.inl h)))) (fun h => (Or.elim h (fun h => (Or.inr (Or.inr (Or.inr (Or.inl h))))) (fun h => (Or.elim h (fun h => (Or.inr (Or.inr (Or.inr (Or.inr (Or.inl h)))))) (fun h => (Or.elim h (fun h => (Or.inr (Or.inr (Or.inr (Or.inr (Or.inr (Or.inl h))))))) (fun h => (Or.elim h (fun h => (Or.inr (Or.inr (Or.inr (Or.inr (Or.inr (Or.inr (Or.inl h)))))))) (fun h => (Or.elim h (fun h => (Or.inl h)) (fun h => (Or.inr (Or.inl h)))))))))))))))).trans (hfg247 k j (fun h => hk (Or.elim h (fun h => (Or.inr (Or.inr (Or.inl h)))) (fun h => (Or.elim h (fun h => (Or.inr (Or.inr (Or.inr (Or.inl h))))) (fun h => (Or.elim h (fun h => (Or.inr (Or.inr (Or.inr (Or.inr (Or.inl h)))))) (fun h => (Or.elim h (fun h => (Or.inr (Or.inr (Or.inr (Or.inr (Or.inr (Or.inl h))))))) (fun h => (Or.elim h (fun h => (Or.inr (Or.inr (Or.inr (Or.inr (Or.inr (Or.inr (Or.inl h)))))))) (fun h => (Or.elim h (fun h => (Or.inl h)) (fun h => (Or.elim h (fun h => (Or.inr (Or.inl h))) (fun h => (Or.elim h (fun h => (Or.inr (Or.inr (Or.inr (Or.inr (Or.inr (Or.inr (Or.inr (Or.inl h))))))))) (fun h => (Or.elim h (fun h => (Or.inr (Or.inr (Or.inr (Or.inr (Or.inr (Or.inr (Or.inr (Or.inr (Or.inl h)))))))))) (fun h => (Or.elim h (fun h => (Or.inr (Or.inr (Or.inr (Or.inr (Or.inr (Or.inr (Or.inr (Or.inr (Or.inr (Or.inl h))))))))))) (fun h => (Or.inr (Or.inr (Or.inr (Or.inr (Or.inr (Or.inr (Or.inr (Or.inr (Or.inr (Or.inr (Or.inl h))))))))))))))))))))))))))))))))))) (by omega) (by omega) (by have h91 := (show g261 137 17 = (g 137 17) from ((hfg261 137 17 nj_59).trans ((hfg247 137 17 nj_77).trans rfl))); omega) (by have h91 := (show g261 137 17 = (g 137 17) from ((hfg261 137 17 nj_59).trans ((hfg247 137 17 nj_77).trans rfl))); omega) (by have h91 := (show g261 137 17 = (g 137 17) from ((hfg261 137 17 nj_59).trans ((hfg247 137 17 nj_77).trans rfl))); omega) (by have h91 := (show g261 137 17 = (g 137 17) from ((hfg261 137 17 nj_59).trans ((hfg247 137 17 nj_77).trans rfl))); omega) (by have h := p2; first | exact mz_TI_d (ti266 h) (by omega) | exact mz_TI_bad (ti266 h) (by omega)) kk266 hE)
              · skip
                replace hE := zf_in hE c94_209
                refine mm_g 2 (pc1 := 99) (lo1 := [some (.ref 137), some (.int (Int32.ofInt a1)), some (.int (Int32.ofInt v7)), some (.int (Int32.ofInt 2))]) (st1 := [.int (Int32.ofInt v7), .ref 137]) (H1 := mz_mk g x) rfl ?_
                refine mz_cv rfl mt_12_286 (by decide) (sc_137 _) rfl (Nat.le_of_ble_eq_true rfl) (by omega) (f_X12_sayTrunk (by omega) hx hI (by omega) (by omega) (by omega) (fun g278 hIg278 hfg278 hp279 hp280 hp281 hp282 hc283 => ⟨_, rfl, ?_⟩))
                show mm_W d mmX12_readLine 102 [some (.ref 137), some (.int (Int32.ofInt a1)), some (.int (Int32.ofInt v7)), some (.int (Int32.ofInt 2))] [] (mz_mk g278 x) Q
                replace hE := zf_t1 hE hc283
                have bz_g278_16 := mz_rd hIg278 bd_137_16
                have hk_g278_17 : g278 137 17 = (g 137 17) := (show g278 137 17 = (g 137 17) from ((hfg278 137 17 nj_84).trans rfl))
                have bz_g278_18 := mz_rd hIg278 bd_137_18
                have bz_g278_20 := mz_rd hIg278 bd_137_20
                have bz_g278_21 := mz_rd hIg278 bd_137_21
                have bz_g278_22 := mz_rd hIg278 bd_137_22
                have hk_g278_4 : g278 140 4 = (g 140 4) := (show g278 140 4 = (g 140 4) from ((hfg278 140 4 nj_85).trans rfl))
                have bt_g278_5 := mz_rd hIg278 bt_140_5
                have hk_g278_6 : g278 140 6 = (g 140 6) := (show g278 140 6 = (g 140 6) from ((hfg278 140 6 nj_86).trans rfl))
                have hk_g278_7 : g278 140 7 = (g 140 7) := (show g278 140 7 = (g 140 7) from ((hfg278 140 7 nj_87).trans rfl))
                have ti283 : mz_TI g a1 → mz_TI g278 a1 := fun h => mz_TI_trunk (hti h) hp282 (hfg278 140 4 nj_85) (hfg278 140 7 nj_87) (fun j => (hfg278 142 j nj_88)) (fun j => (hfg278 149 j nj_89)) (by intro hb; omega)
                have kk283 : mz_K1 g g278 := mz_K1_tr (mz_K1_rf _) ⟨(fun j hj => (hfg278 140 j (fun h => (Or.elim h (fun h => (absurd (show 140 = 137 from (h).1) (by decide))) (fun h => (Or.elim h (fun h => (absurd (show 140 = 137 from (h).1) (by decide))) (fun h => (Or.elim h (fun h => (absurd (show 140 = 137 from (h).1) (by decide))) (fun h => (Or.elim h (fun h => (absurd (show 140 = 137 from (h).1) (by decide))) (fun h => (Or.elim h (fun h => (absurd (show 140 = 137 from (h).1) (by decide))) (fun h => (Or.elim h (fun h => (absurd (show 140 = 137 from (h).1) (by decide))) (fun h => (Or.elim h (fun h => (absurd (show 140 = 137 from (h).1) (by decide))) (fun h => (Or.elim h (fun h => (absurd (show 140 = 144 from h) (by decide))) (fun h => (Or.elim h (fun h => (absurd (show 140 = 145 from h) (by decide))) (fun h => (Or.elim h (fun h => (absurd (show 140 = 146 from h) (by decide))) (fun h => (Or.elim h (fun h => (absurd (show 140 = 147 from h) (by decide))) (fun h => (by have h9 : (140 = 140 ∧ j = 5) := h; omega)))))))))))))))))))))))))), (fun j hj => (hfg278 142 j nj_88)), (fun j hj => (hfg278 149 j nj_89))⟩
                have mo_g278 : g 137 20 ≤ g278 137 20 := by omega
                replace p1 := mz_hd p1
                refine mz_gt (tgt := 127) rfl rfl ?_
                refine mm_g 1 (pc1 := 128) (lo1 := [some (.ref 137), some (.int (Int32.ofInt a1)), some (.int (Int32.ofInt v7)), some (.int (Int32.ofInt 2))]) (st1 := [.ref 137]) (H1 := mz_mk g278 x) rfl ?_
                refine mz_bip rfl bip_59 ?_
                have hq285 : g278 137 17 = (g 137 17) := (show g278 137 17 = (g 137 17) from ((hfg278 137 17 nj_84).trans rfl))
                refine mz_cv rfl mt_12_244 (by decide) (sc_137 _) rfl (Nat.le_of_ble_eq_true rfl) (by omega) (f_X12_mark (by omega) hx hIg278 (by decide) (by decide) (by have h91 := (show g278 137 17 = (g 137 17) from ((hfg278 137 17 nj_84).trans rfl)); omega) (fun g290 hIg290 hfg290 hp291 hp292 hp293 hp294 hc295 => ⟨_, rfl, ?_⟩))
                show mm_W d mmX12_readLine 133 [some (.ref 137), some (.int (Int32.ofInt a1)), some (.int (Int32.ofInt v7)), some (.int (Int32.ofInt 2))] [] (mz_mk g290 x) Q
                replace hE := zf_t1 hE hc295
                have bz_g290_16 := mz_rd hIg290 bd_137_16
                have hk_g290_17 : g290 137 17 = (g 137 17) := (show g290 137 17 = (g 137 17) from ((hfg290 137 17 nj_59).trans ((hfg278 137 17 nj_84).trans rfl)))
                have bz_g290_18 := mz_rd hIg290 bd_137_18
                have bz_g290_20 := mz_rd hIg290 bd_137_20
                have bz_g290_21 := mz_rd hIg290 bd_137_21
                have bz_g290_22 := mz_rd hIg290 bd_137_22
                have ti295 : mz_TI g a1 → mz_TI g290 a1 := fun h => mz_TI_tok (ti283 h) (fun j hj => (hfg290 140 j nj_60)) (fun j => (hfg290 142 j nj_69)) (fun j => (hfg290 145 j nj_72)) (fun j => (hfg290 146 j nj_73)) (fun j => (hfg290 149 j nj_62)) (by intro hb; omega)
                have kk295 : mz_K1 g g290 := mz_K1_tr kk283 ⟨(fun j hj => (hfg290 140 j nj_60)), (fun j hj => (hfg290 142 j nj_69)), (fun j hj => (hfg290 149 j nj_62))⟩
                have mo_g290 : g 137 20 ≤ g290 137 20 := by omega
                replace hp279 := mz_hd hp279
                refine mm_g 2 (pc1 := 135) (lo1 := [some (.ref 137), some (.int (Int32.ofInt a1)), some (.int (Int32.ofInt v7)), some (.int (Int32.ofInt 2))]) (st1 := [.int (Int32.ofInt 2), .int (Int32.ofInt a1)]) (H1 := mz_mk g290 x) rfl ?_
                refine mz_ior rfl (fun v296 e_v296 hwv296 => ?_)
                have b_v296 : 0 ≤ v296 ∧ v296 ≤ 3 := by rw [e_v296]; exact mz_or_lt (n := 2) (by decide) (by omega) (by omega) (by omega) (by omega)
                have l_v296 := b_v296.1
                have u_v296 := b_v296.2
                replace hE := zf_tr hE (zf_le e_v296.symm)
                exact mm_rt rfl rfl (hQ _ _ hIg290 (fun k j hk => ((hfg290 k j (fun h => hk (Or.elim h (fun h => (Or.inr (Or.inr (Or.inl h)))) (fun h => (Or.elim h (fun h => (Or.inr (Or.inr (Or.inr (Or.inl h))))) (fun h => (Or.elim h (fun h => (Or.inr (Or.inr (Or.inr (Or.inr (Or.inl h)))))) (fun h => (Or.elim h (fun h => (Or.inr (Or.inr (Or.inr (Or.inr (Or.inr (Or.inl h))))))) (fun h => (Or.elim h (fun h => (Or.inr (Or.inr (Or.inr (Or.inr (Or.inr (Or.inr (Or.inl h)))))))) (fun h => (Or.elim h (fun h => (Or.inl h)) (fun h => (Or.inr (Or.inl h)))))))))))))))).trans (hfg278 k j (fun h => hk (Or.elim h (fun h => (Or.inr (Or.inr (Or.inl h)))) (fun h => (Or.elim h (fun h => (Or.inr (Or.inr (Or.inr (Or.inl h))))) (fun h => (Or.elim h (fun h => (Or.inr (Or.inr (Or.inr (Or.inr (Or.inl h)))))) (fun h => (Or.elim h (fun h => (Or.inr (Or.inr (Or.inr (Or.inr (Or.inr (Or.inl h))))))) (fun h => (Or.elim h (fun h => (Or.inr (Or.inr (Or.inr (Or.inr (Or.inr (Or.inr (Or.inl h)))))))) (fun h => (Or.elim h (fun h => (Or.inl h)) (fun h => (Or.elim h (fun h => (Or.inr (Or.inl h))) (fun h => (Or.elim h (fun h => (Or.inr (Or.inr (Or.inr (Or.inr (Or.inr (Or.inr (Or.inr (Or.inr (Or.inr (Or.inr (Or.inr (Or.inl h))))))))))))) (fun h => (Or.elim h (fun h => (Or.inr (Or.inr (Or.inr (Or.inr (Or.inr (Or.inr (Or.inr (Or.inr (Or.inr (Or.inr (Or.inr (Or.inr (Or.inl h)))))))))))))) (fun h => (Or.elim h (fun h => (Or.inr (Or.inr (Or.inr (Or.inr (Or.inr (Or.inr (Or.inr (Or.inr (Or.inr (Or.inr (Or.inr (Or.inr (Or.inr (Or.inl h))))))))))))))) (fun h => (Or.elim h (fun h => (Or.inr (Or.inr (Or.inr (Or.inr (Or.inr (Or.inr (Or.inr (Or.inr (Or.inr (Or.inr (Or.inr (Or.inr (Or.inr (Or.inr (Or.inl h)))))))))))))))) (fun h => (Or.inr (Or.inr (Or.inr (Or.inr (Or.inr (Or.inr (Or.inr (Or.inr (Or.inr (Or.inr (Or.inr (Or.inr (Or.inr (Or.inr (Or.inr (Or.inl h)))))))))))))))))))))))))))))))))))))))))) (by omega) (by omega) (by have h91 := (show g290 137 17 = (g 137 17) from ((hfg290 137 17 nj_59).trans ((hfg278 137 17 nj_84).trans rfl))); omega) (by have h91 := (show g290 137 17 = (g 137 17) from ((hfg290 137 17 nj_59).trans ((hfg278 137 17 nj_84).trans rfl))); omega) (by have h91 := (show g290 137 17 = (g 137 17) from ((hfg290 137 17 nj_59).trans ((hfg278 137 17 nj_84).trans rfl))); omega) (by have h91 := (show g290 137 17 = (g 137 17) from ((hfg290 137 17 nj_59).trans ((hfg278 137 17 nj_84).trans rfl))); omega) (by have h := p2; first | exact mz_TI_d (ti295 h) (by omega) | exact mz_TI_bad (ti295 h) (by omega)) kk295 hE)
            · skip
              replace hE := zf_ip hE c77_209
              refine mm_g 1 (pc1 := 81) (lo1 := [some (.ref 137), some (.int (Int32.ofInt a1)), some (.int (Int32.ofInt v7)), some (.int (Int32.ofInt 2))]) (st1 := [.ref 137]) (H1 := mz_mk g x) rfl ?_
              refine mz_cv rfl mt_12_228 (by decide) (sc_137 _) rfl (Nat.le_of_ble_eq_true rfl) (by omega) (f_X12_stepOn (by omega) hx hI (by omega) (fun g303 hIg303 hfg303 hp304 hp305 hc306 => ⟨_, rfl, ?_⟩))
              show mm_W d mmX12_readLine 84 [some (.ref 137), some (.int (Int32.ofInt a1)), some (.int (Int32.ofInt v7)), some (.int (Int32.ofInt 2))] [] (mz_mk g303 x) Q
              replace hE := zf_t1 hE hc306
              have bz_g303_16 := mz_rd hIg303 bd_137_16
              have hk_g303_17 : g303 137 17 = (g 137 17) := (show g303 137 17 = (g 137 17) from ((hfg303 137 17 nj_10).trans rfl))
              have bz_g303_18 := mz_rd hIg303 bd_137_18
              have bz_g303_20 := mz_rd hIg303 bd_137_20
              have bz_g303_21 := mz_rd hIg303 bd_137_21
              have hk_g303_22 : g303 137 22 = (g 137 22) := (show g303 137 22 = (g 137 22) from ((hfg303 137 22 nj_11).trans rfl))
              have ti306 : mz_TI g a1 → mz_TI g303 a1 := fun h => mz_TI_tok (hti h) (fun j hj => (hfg303 140 j nj_64)) (fun j => (hfg303 142 j nj_70)) (fun j => (hfg303 145 j nj_90)) (fun j => (hfg303 146 j nj_91)) (fun j => (hfg303 149 j nj_65)) (by intro hb; have h90 := (show g303 137 22 = (g 137 22) from ((hfg303 137 22 nj_11).trans rfl)); omega)
              have kk306 : mz_K1 g g303 := mz_K1_tr (mz_K1_rf _) ⟨(fun j hj => (hfg303 140 j nj_64)), (fun j hj => (hfg303 142 j nj_70)), (fun j hj => (hfg303 149 j nj_65))⟩
              have mo_g303 : g 137 20 ≤ g303 137 20 := by omega
              replace p1 := mz_hd p1
              refine mm_g 2 (pc1 := 86) (lo1 := [some (.ref 137), some (.int (Int32.ofInt a1)), some (.int (Int32.ofInt v7)), some (.int (Int32.ofInt 2))]) (st1 := [.int (Int32.ofInt 0), .ref 137]) (H1 := mz_mk g303 x) rfl ?_
              have h7 : g 137 22 = 0 → g 140 7 = 0 := fun z => (mz_isU p2.2 z).2.2.1 (by omega)
              have hq308 : g303 137 17 = (g 137 17) := (show g303 137 17 = (g 137 17) from ((hfg303 137 17 nj_10).trans rfl))
              have hq312 : g303 137 22 = (g 137 22) := (show g303 137 22 = (g 137 22) from ((hfg303 137 22 nj_11).trans rfl))
              have hq313 : g303 140 7 = (g 140 7) := (show g303 140 7 = (g 140 7) from ((hfg303 140 7 nj_64).trans rfl))
              refine mz_cv rfl mt_12_247 (by decide) (sc_137 _) rfl (Nat.le_of_ble_eq_true rfl) (by omega) (mz_KF_use (mz_KF_all 7 0 (by decide) (by decide) (by decide)) (by omega) hx hIg303 (by decide) (by decide) (by have h91 := (show g303 137 17 = (g 137 17) from ((hfg303 137 17 nj_10).trans rfl)); have h95 := (show g303 137 22 = (g 137 22) from ((hfg303 137 22 nj_11).trans rfl)); omega) (by have h91 := (show g303 137 17 = (g 137 17) from ((hfg303 137 17 nj_10).trans rfl)); have h95 := (show g303 137 22 = (g 137 22) from ((hfg303 137 22 nj_11).trans rfl)); have h96 := (show g303 140 7 = (g 140 7) from ((hfg303 140 7 nj_64).trans rfl)); omega) (by have h91 := (show g303 137 17 = (g 137 17) from ((hfg303 137 17 nj_10).trans rfl)); have h95 := (show g303 137 22 = (g 137 22) from ((hfg303 137 22 nj_11).trans rfl)); have h96 := (show g303 140 7 = (g 140 7) from ((hfg303 140 7 nj_64).trans rfl)); omega) (fun g314 hIg314 hfg314 hp315 hp316 hp317 hp318 hp319 hp320 hp321 hc322 => ⟨_, rfl, ?_⟩))
              show mm_W d mmX12_readLine 89 [some (.ref 137), some (.int (Int32.ofInt a1)), some (.int (Int32.ofInt v7)), some (.int (Int32.ofInt 2))] [] (mz_mk g314 x) Q
              replace hE := zf_t1 hE hc322
              have bz_g314_16 := mz_rd hIg314 bd_137_16
              have hk_g314_17 : g314 137 17 = (g 137 17) := (show g314 137 17 = (g 137 17) from ((hfg314 137 17 nj_61).trans ((hfg303 137 17 nj_10).trans rfl)))
              have bz_g314_18 := mz_rd hIg314 bd_137_18
              have bz_g314_20 := mz_rd hIg314 bd_137_20
              have bz_g314_21 := mz_rd hIg314 bd_137_21
              have bz_g314_22 := mz_rd hIg314 bd_137_22
              have bt_g314_7 := mz_rd hIg314 bt_140_7
              have ti322 : mz_TI g a1 → mz_TI g314 2 := fun h => mz_TI_rule (ti306 h) (by omega) (fun j hj => (hfg314 140 j (fun h => (Or.elim h (fun h => (absurd (show 140 = 137 from (h).1) (by decide))) (fun h => (Or.elim h (fun h => (absurd (show 140 = 137 from (h).1) (by decide))) (fun h => (Or.elim h (fun h => (absurd (show 140 = 137 from (h).1) (by decide))) (fun h => (Or.elim h (fun h => (absurd (show 140 = 137 from (h).1) (by decide))) (fun h => (Or.elim h (fun h => (absurd (show 140 = 137 from (h).1) (by decide))) (fun h => (Or.elim h (fun h => (absurd (show 140 = 137 from (h).1) (by decide))) (fun h => (Or.elim h (fun h => (absurd (show 140 = 137 from (h).1) (by decide))) (fun h => (Or.elim h (fun h => (absurd (show 140 = 149 from h) (by decide))) (fun h => (by have h9 : (140 = 140 ∧ j = 7) := h; omega)))))))))))))))))))) (fun j => (hfg314 142 j nj_92)) (fun j => (hfg314 145 j nj_93)) (fun j => (hfg314 146 j nj_94)) (by intro hb; omega) hp321
              have kk322 : mz_K1 g g314 := mz_K1_tr kk306 ⟨(fun j hj => (hfg314 140 j (fun h => (Or.elim h (fun h => (absurd (show 140 = 137 from (h).1) (by decide))) (fun h => (Or.elim h (fun h => (absurd (show 140 = 137 from (h).1) (by decide))) (fun h => (Or.elim h (fun h => (absurd (show 140 = 137 from (h).1) (by decide))) (fun h => (Or.elim h (fun h => (absurd (show 140 = 137 from (h).1) (by decide))) (fun h => (Or.elim h (fun h => (absurd (show 140 = 137 from (h).1) (by decide))) (fun h => (Or.elim h (fun h => (absurd (show 140 = 137 from (h).1) (by decide))) (fun h => (Or.elim h (fun h => (absurd (show 140 = 137 from (h).1) (by decide))) (fun h => (Or.elim h (fun h => (absurd (show 140 = 149 from h) (by decide))) (fun h => (by have h9 : (140 = 140 ∧ j = 7) := h; omega)))))))))))))))))))), (fun j hj => (hfg314 142 j nj_92)), (fun j hj => hp320 j (by omega))⟩
              have mo_g314 : g 137 20 ≤ g314 137 20 := by omega
              replace hp318 := mz_hd hp318
              replace hp319 := mz_hd hp319
              replace hp304 := mz_hd hp304
              refine mz_gt (tgt := 127) rfl rfl ?_
              refine mm_g 1 (pc1 := 128) (lo1 := [some (.ref 137), some (.int (Int32.ofInt a1)), some (.int (Int32.ofInt v7)), some (.int (Int32.ofInt 2))]) (st1 := [.ref 137]) (H1 := mz_mk g314 x) rfl ?_
              refine mz_bip rfl bip_59 ?_
              have hq324 : g314 137 17 = (g 137 17) := (show g314 137 17 = (g 137 17) from ((hfg314 137 17 nj_61).trans ((hfg303 137 17 nj_10).trans rfl)))
              refine mz_cv rfl mt_12_244 (by decide) (sc_137 _) rfl (Nat.le_of_ble_eq_true rfl) (by omega) (f_X12_mark (by omega) hx hIg314 (by decide) (by decide) (by have h91 := (show g314 137 17 = (g 137 17) from ((hfg314 137 17 nj_61).trans ((hfg303 137 17 nj_10).trans rfl))); omega) (fun g329 hIg329 hfg329 hp330 hp331 hp332 hp333 hc334 => ⟨_, rfl, ?_⟩))
              show mm_W d mmX12_readLine 133 [some (.ref 137), some (.int (Int32.ofInt a1)), some (.int (Int32.ofInt v7)), some (.int (Int32.ofInt 2))] [] (mz_mk g329 x) Q
              replace hE := zf_t1 hE hc334
              have bz_g329_16 := mz_rd hIg329 bd_137_16
              have hk_g329_17 : g329 137 17 = (g 137 17) := (show g329 137 17 = (g 137 17) from ((hfg329 137 17 nj_59).trans ((hfg314 137 17 nj_61).trans ((hfg303 137 17 nj_10).trans rfl))))
              have bz_g329_18 := mz_rd hIg329 bd_137_18
              have bz_g329_20 := mz_rd hIg329 bd_137_20
              have bz_g329_21 := mz_rd hIg329 bd_137_21
              have bz_g329_22 := mz_rd hIg329 bd_137_22
              have ti334 : mz_TI g a1 → mz_TI g329 2 := fun h => mz_TI_tok (ti322 h) (fun j hj => (hfg329 140 j nj_60)) (fun j => (hfg329 142 j nj_69)) (fun j => (hfg329 145 j nj_72)) (fun j => (hfg329 146 j nj_73)) (fun j => (hfg329 149 j nj_62)) (by intro hb; omega)
              have kk334 : mz_K1 g g329 := mz_K1_tr kk322 ⟨(fun j hj => (hfg329 140 j nj_60)), (fun j hj => (hfg329 142 j nj_69)), (fun j hj => (hfg329 149 j nj_62))⟩
              have mo_g329 : g 137 20 ≤ g329 137 20 := by omega
              replace hp315 := mz_hd hp315
              refine mm_g 2 (pc1 := 135) (lo1 := [some (.ref 137), some (.int (Int32.ofInt a1)), some (.int (Int32.ofInt v7)), some (.int (Int32.ofInt 2))]) (st1 := [.int (Int32.ofInt 2), .int (Int32.ofInt a1)]) (H1 := mz_mk g329 x) rfl ?_
              refine mz_ior rfl (fun v335 e_v335 hwv335 => ?_)
              have b_v335 : 0 ≤ v335 ∧ v335 ≤ 3 := by rw [e_v335]; exact mz_or_lt (n := 2) (by decide) (by omega) (by omega) (by omega) (by omega)
              have l_v335 := b_v335.1
              have u_v335 := b_v335.2
              replace hE := zf_tr hE (zf_le e_v335.symm)
              exact mm_rt rfl rfl (hQ _ _ hIg329 (fun k j hk => ((hfg329 k j (fun h => hk (Or.elim h (fun h => (Or.inr (Or.inr (Or.inl h)))) (fun h => (Or.elim h (fun h => (Or.inr (Or.inr (Or.inr (Or.inl h))))) (fun h => (Or.elim h (fun h => (Or.inr (Or.inr (Or.inr (Or.inr (Or.inl h)))))) (fun h => (Or.elim h (fun h => (Or.inr (Or.inr (Or.inr (Or.inr (Or.inr (Or.inl h))))))) (fun h => (Or.elim h (fun h => (Or.inr (Or.inr (Or.inr (Or.inr (Or.inr (Or.inr (Or.inl h)))))))) (fun h => (Or.elim h (fun h => (Or.inl h)) (fun h => (Or.inr (Or.inl h)))))))))))))))).trans ((hfg314 k j (fun h => hk (Or.elim h (fun h => (Or.inl h)) (fun h => (Or.elim h (fun h => (Or.inr (Or.inl h))) (fun h => (Or.elim h (fun h => (Or.inr (Or.inr (Or.inl h)))) (fun h => (Or.elim h (fun h => (Or.inr (Or.inr (Or.inr (Or.inl h))))) (fun h => (Or.elim h (fun h => (Or.inr (Or.inr (Or.inr (Or.inr (Or.inl h)))))) (fun h => (Or.elim h (fun h => (Or.inr (Or.inr (Or.inr (Or.inr (Or.inr (Or.inl h))))))) (fun h => (Or.elim h (fun h => (Or.inr (Or.inr (Or.inr (Or.inr (Or.inr (Or.inr (Or.inl h)))))))) (fun h => (Or.elim h (fun h => (Or.inr (Or.inr (Or.inr (Or.inr (Or.inr (Or.inr (Or.inr (Or.inr (Or.inr (Or.inr (Or.inr (Or.inr (Or.inr (Or.inr (Or.inr (Or.inr (Or.inl h)))))))))))))))))) (fun h => (Or.inr (Or.inr (Or.inr (Or.inr (Or.inr (Or.inr (Or.inr (Or.inr (Or.inr (Or.inr (Or.inr (Or.inr (Or.inr (Or.inr (Or.inr (Or.inr (Or.inr (Or.inl h)))))))))))))))))))))))))))))))))))).trans (hfg303 k j (fun h => hk (Or.elim h (fun h => (Or.inr (Or.inr (Or.inl h)))) (fun h => (Or.elim h (fun h => (Or.inr (Or.inr (Or.inr (Or.inl h))))) (fun h => (Or.elim h (fun h => (Or.inr (Or.inr (Or.inr (Or.inr (Or.inl h)))))) (fun h => (Or.elim h (fun h => (Or.inr (Or.inr (Or.inr (Or.inr (Or.inr (Or.inl h))))))) (fun h => (Or.inr (Or.inr (Or.inr (Or.inr (Or.inr (Or.inr (Or.inl h)))))))))))))))))))) (by omega) (by omega) (by have h91 := (show g329 137 17 = (g 137 17) from ((hfg329 137 17 nj_59).trans ((hfg314 137 17 nj_61).trans ((hfg303 137 17 nj_10).trans rfl)))); omega) (by have h91 := (show g329 137 17 = (g 137 17) from ((hfg329 137 17 nj_59).trans ((hfg314 137 17 nj_61).trans ((hfg303 137 17 nj_10).trans rfl)))); omega) (by have h91 := (show g329 137 17 = (g 137 17) from ((hfg329 137 17 nj_59).trans ((hfg314 137 17 nj_61).trans ((hfg303 137 17 nj_10).trans rfl)))); omega) (by have h91 := (show g329 137 17 = (g 137 17) from ((hfg329 137 17 nj_59).trans ((hfg314 137 17 nj_61).trans ((hfg303 137 17 nj_10).trans rfl)))); omega) (by have h := p2; first | exact mz_TI_d (ti334 h) (by omega) | exact mz_TI_bad (ti334 h) (by omega)) kk334 hE)
        · exfalso; omega
      · skip
        replace hE := zf_in hE c41_209
        refine mm_g 2 (pc1 := 46) (lo1 := [some (.ref 137), some (.int (Int32.ofInt a1)), some (.int (Int32.ofInt v7)), some (.int (Int32.ofInt 2))]) (st1 := [.int (Int32.ofInt 5), .ref 137]) (H1 := mz_mk g x) rfl ?_
        refine mz_cv rfl mt_12_224 (by decide) (sc_137 _) rfl (Nat.le_of_ble_eq_true rfl) (by omega) (f_X12_wrong (by omega) hx hI (by decide) (by decide) (fun g337 hIg337 hfg337 hp338 hp339 hc340 => ⟨_, rfl, ?_⟩))
        show mm_W d mmX12_readLine 49 [some (.ref 137), some (.int (Int32.ofInt a1)), some (.int (Int32.ofInt v7)), some (.int (Int32.ofInt 2))] [] (mz_mk g337 x) Q
        replace hE := zf_t1 hE hc340
        have bz_g337_22 := mz_rd hIg337 bd_137_22
        have ti340 : mz_TI g a1 → mz_TI g337 a1 := fun h => mz_TI_tok (hti h) (fun j hj => (hfg337 140 j nj_18)) (fun j => (hfg337 142 j nj_71)) (fun j => (hfg337 145 j nj_75)) (fun j => (hfg337 146 j nj_76)) (fun j => (hfg337 149 j nj_66)) (by intro hb; omega)
        have kk340 : mz_K1 g g337 := mz_K1_tr (mz_K1_rf _) ⟨(fun j hj => (hfg337 140 j nj_18)), (fun j hj => (hfg337 142 j nj_71)), (fun j hj => (hfg337 149 j nj_66))⟩
        replace hp339 := mz_hd hp339
        refine mm_g 2 (pc1 := 51) (lo1 := [some (.ref 137), some (.int (Int32.ofInt a1)), some (.int (Int32.ofInt v7)), some (.int (Int32.ofInt 2))]) (st1 := [.int (Int32.ofInt 1), .int (Int32.ofInt 2)]) (H1 := mz_mk g337 x) rfl ?_
        refine mz_ic_ne (tgt := 68) rfl rfl ⟨by decide, by decide⟩ ⟨by decide, by decide⟩ (fun c51_340 => ?_) (fun c51_340 => ?_)
        · skip
          (try unfold zJ_X12_readLine_37 at hE)
          (try unfold zJ_X12_readLine_49 at hE)
          (try unfold zJ_X12_readLine_127 at hE)
          (try unfold zJ_X12_readLine_68 at hE)
          (try unfold zJ_X12_readLine_92 at hE)
          (try unfold zJ_X12_readLine_37 at hE)
          (try unfold zJ_X12_readLine_49 at hE)
          (try unfold zJ_X12_readLine_127 at hE)
          (try unfold zJ_X12_readLine_68 at hE)
          (try unfold zJ_X12_readLine_92 at hE)
          replace hE := zf_in hE c51_340
          refine mm_g 2 (pc1 := 70) (lo1 := [some (.ref 137), some (.int (Int32.ofInt a1)), some (.int (Int32.ofInt v7)), some (.int (Int32.ofInt 2))]) (st1 := [.int (Int32.ofInt 2), .int (Int32.ofInt 2)]) (H1 := mz_mk g337 x) rfl ?_
          refine mz_ic_ne (tgt := 92) rfl rfl ⟨by decide, by decide⟩ ⟨by decide, by decide⟩ (fun c70_340 => ?_) (fun c70_340 => ?_)
          · exfalso; omega
          · skip
            (try unfold zJ_X12_readLine_37 at hE)
            (try unfold zJ_X12_readLine_49 at hE)
            (try unfold zJ_X12_readLine_127 at hE)
            (try unfold zJ_X12_readLine_68 at hE)
            (try unfold zJ_X12_readLine_92 at hE)
            (try unfold zJ_X12_readLine_37 at hE)
            (try unfold zJ_X12_readLine_49 at hE)
            (try unfold zJ_X12_readLine_127 at hE)
            (try unfold zJ_X12_readLine_68 at hE)
            (try unfold zJ_X12_readLine_92 at hE)
            replace hE := zf_ip hE c70_340
            refine mm_g 1 (pc1 := 74) (lo1 := [some (.ref 137), some (.int (Int32.ofInt a1)), some (.int (Int32.ofInt v7)), some (.int (Int32.ofInt 2))]) (st1 := [.ref 137]) (H1 := mz_mk g337 x) rfl ?_
            refine mz_fgI (v := (g337 137 22)) rfl fd_12_203 (by decide) (sc_137 _) (show g337 137 22 = (g337 137 22) from rfl) ?_
            replace hE := zf_tr hE (zf_le (show g337 137 22 = (g337 137 22) from rfl))
            refine mz_if_ne (tgt := 92) rfl rfl ⟨by omega, by omega⟩ (fun c77_340 => ?_) (fun c77_340 => ?_)
            · skip
              replace hE := zf_in hE c77_340
              refine mm_g 2 (pc1 := 94) (lo1 := [some (.ref 137), some (.int (Int32.ofInt a1)), some (.int (Int32.ofInt v7)), some (.int (Int32.ofInt 2))]) (st1 := [.int (Int32.ofInt (-1)), .int (Int32.ofInt v7)]) (H1 := mz_mk g337 x) rfl ?_
              refine mz_ic_eq (tgt := 105) rfl rfl (mz_rg l_v7 u_v7) ⟨by decide, by decide⟩ (fun c94_340 => ?_) (fun c94_340 => ?_)
              · skip
                replace hE := zf_ip hE c94_340
                refine mm_g 1 (pc1 := 106) (lo1 := [some (.ref 137), some (.int (Int32.ofInt a1)), some (.int (Int32.ofInt v7)), some (.int (Int32.ofInt 2))]) (st1 := [.ref 137]) (H1 := mz_mk g337 x) rfl ?_
                refine mz_ldcSW (j := 27) rfl rfl rfl ?_
                have hq341 : g337 137 16 = (g 137 16) := (show g337 137 16 = (g 137 16) from ((hfg337 137 16 nj_12).trans rfl))
                have hq342 : g337 137 17 = (g 137 17) := (show g337 137 17 = (g 137 17) from ((hfg337 137 17 nj_13).trans rfl))
                have hq343 : g337 137 18 = (g 137 18) := (show g337 137 18 = (g 137 18) from ((hfg337 137 18 nj_14).trans rfl))
                have hq344 : g337 137 20 = (g 137 20) := (show g337 137 20 = (g 137 20) from ((hfg337 137 20 nj_15).trans rfl))
                have hq345 : g337 137 21 = (g 137 21) := (show g337 137 21 = (g 137 21) from ((hfg337 137 21 nj_16).trans rfl))
                refine mz_cv rfl mt_12_217 (by decide) (sc_137 _) rfl (Nat.le_of_ble_eq_true rfl) (by omega) (f_X12_is (by omega) hx hIg337 (by decide) (by have h90 := (show g337 137 16 = (g 137 16) from ((hfg337 137 16 nj_12).trans rfl)); have h91 := (show g337 137 17 = (g 137 17) from ((hfg337 137 17 nj_13).trans rfl)); have h92 := (show g337 137 18 = (g 137 18) from ((hfg337 137 18 nj_14).trans rfl)); have h93 := (show g337 137 20 = (g 137 20) from ((hfg337 137 20 nj_15).trans rfl)); have h94 := (show g337 137 21 = (g 137 21) from ((hfg337 137 21 nj_16).trans rfl)); omega) (fun v347 l_v347 u_v347 hp348 hc349 => ⟨_, rfl, ?_⟩))
                show mm_W d mmX12_readLine 112 [some (.ref 137), some (.int (Int32.ofInt a1)), some (.int (Int32.ofInt v7)), some (.int (Int32.ofInt 2))] [.int (Int32.ofInt v347)] (mz_mk g337 x) Q
                replace hE := zf_t1 hE hc349
                replace hp348 := mz_hd hp348
                refine mz_if_eq (tgt := 122) rfl rfl (mz_rg l_v347 u_v347) (fun c112_349 => ?_) (fun c112_349 => ?_)
                · skip
                  replace hE := zf_ip hE c112_349
                  refine mm_g 2 (pc1 := 124) (lo1 := [some (.ref 137), some (.int (Int32.ofInt a1)), some (.int (Int32.ofInt v7)), some (.int (Int32.ofInt 2))]) (st1 := [.int (Int32.ofInt 1), .ref 137]) (H1 := mz_mk g337 x) rfl ?_
                  refine mz_cv rfl mt_12_224 (by decide) (sc_137 _) rfl (Nat.le_of_ble_eq_true rfl) (by omega) (f_X12_wrong (by omega) hx hIg337 (by decide) (by decide) (fun g351 hIg351 hfg351 hp352 hp353 hc354 => ⟨_, rfl, ?_⟩))
                  show mm_W d mmX12_readLine 127 [some (.ref 137), some (.int (Int32.ofInt a1)), some (.int (Int32.ofInt v7)), some (.int (Int32.ofInt 2))] [] (mz_mk g351 x) Q
                  replace hE := zf_t1 hE hc354
                  have bz_g351_22 := mz_rd hIg351 bd_137_22
                  have ti354 : mz_TI g a1 → mz_TI g351 a1 := fun h => mz_TI_tok (ti340 h) (fun j hj => (hfg351 140 j nj_18)) (fun j => (hfg351 142 j nj_71)) (fun j => (hfg351 145 j nj_75)) (fun j => (hfg351 146 j nj_76)) (fun j => (hfg351 149 j nj_66)) (by intro hb; omega)
                  have kk354 : mz_K1 g g351 := mz_K1_tr kk340 ⟨(fun j hj => (hfg351 140 j nj_18)), (fun j hj => (hfg351 142 j nj_71)), (fun j hj => (hfg351 149 j nj_66))⟩
                  replace hp353 := mz_hd hp353
                  refine mm_g 1 (pc1 := 128) (lo1 := [some (.ref 137), some (.int (Int32.ofInt a1)), some (.int (Int32.ofInt v7)), some (.int (Int32.ofInt 2))]) (st1 := [.ref 137]) (H1 := mz_mk g351 x) rfl ?_
                  refine mz_bip rfl bip_59 ?_
                  have hq355 : g351 137 16 = (g 137 16) := (show g351 137 16 = (g 137 16) from ((hfg351 137 16 nj_12).trans ((hfg337 137 16 nj_12).trans rfl)))
                  have hq356 : g351 137 17 = (g 137 17) := (show g351 137 17 = (g 137 17) from ((hfg351 137 17 nj_13).trans ((hfg337 137 17 nj_13).trans rfl)))
                  have hq357 : g351 137 18 = (g 137 18) := (show g351 137 18 = (g 137 18) from ((hfg351 137 18 nj_14).trans ((hfg337 137 18 nj_14).trans rfl)))
                  have hq358 : g351 137 20 = (g 137 20) := (show g351 137 20 = (g 137 20) from ((hfg351 137 20 nj_15).trans ((hfg337 137 20 nj_15).trans rfl)))
                  have hq359 : g351 137 21 = (g 137 21) := (show g351 137 21 = (g 137 21) from ((hfg351 137 21 nj_16).trans ((hfg337 137 21 nj_16).trans rfl)))
                  refine mz_cv rfl mt_12_244 (by decide) (sc_137 _) rfl (Nat.le_of_ble_eq_true rfl) (by omega) (f_X12_mark (by omega) hx hIg351 (by decide) (by decide) (by have h90 := (show g351 137 16 = (g 137 16) from ((hfg351 137 16 nj_12).trans ((hfg337 137 16 nj_12).trans rfl))); have h91 := (show g351 137 17 = (g 137 17) from ((hfg351 137 17 nj_13).trans ((hfg337 137 17 nj_13).trans rfl))); have h92 := (show g351 137 18 = (g 137 18) from ((hfg351 137 18 nj_14).trans ((hfg337 137 18 nj_14).trans rfl))); have h93 := (show g351 137 20 = (g 137 20) from ((hfg351 137 20 nj_15).trans ((hfg337 137 20 nj_15).trans rfl))); have h94 := (show g351 137 21 = (g 137 21) from ((hfg351 137 21 nj_16).trans ((hfg337 137 21 nj_16).trans rfl))); omega) (fun g361 hIg361 hfg361 hp362 hp363 hp364 hp365 hc366 => ⟨_, rfl, ?_⟩))
                  show mm_W d mmX12_readLine 133 [some (.ref 137), some (.int (Int32.ofInt a1)), some (.int (Int32.ofInt v7)), some (.int (Int32.ofInt 2))] [] (mz_mk g361 x) Q
                  replace hE := zf_t1 hE hc366
                  have bz_g361_16 := mz_rd hIg361 bd_137_16
                  have hk_g361_17 : g361 137 17 = (g 137 17) := (show g361 137 17 = (g 137 17) from ((hfg361 137 17 nj_59).trans ((hfg351 137 17 nj_13).trans ((hfg337 137 17 nj_13).trans rfl))))
                  have bz_g361_18 := mz_rd hIg361 bd_137_18
                  have bz_g361_20 := mz_rd hIg361 bd_137_20
                  have bz_g361_21 := mz_rd hIg361 bd_137_21
                  have bz_g361_22 := mz_rd hIg361 bd_137_22
                  have ti366 : mz_TI g a1 → mz_TI g361 a1 := fun h => mz_TI_tok (ti354 h) (fun j hj => (hfg361 140 j nj_60)) (fun j => (hfg361 142 j nj_69)) (fun j => (hfg361 145 j nj_72)) (fun j => (hfg361 146 j nj_73)) (fun j => (hfg361 149 j nj_62)) (by intro hb; omega)
                  have kk366 : mz_K1 g g361 := mz_K1_tr kk354 ⟨(fun j hj => (hfg361 140 j nj_60)), (fun j hj => (hfg361 142 j nj_69)), (fun j hj => (hfg361 149 j nj_62))⟩
                  have mo_g361 : g 137 20 ≤ g361 137 20 := by omega
                  replace p1 := mz_hd p1
                  refine mm_g 2 (pc1 := 135) (lo1 := [some (.ref 137), some (.int (Int32.ofInt a1)), some (.int (Int32.ofInt v7)), some (.int (Int32.ofInt 2))]) (st1 := [.int (Int32.ofInt 2), .int (Int32.ofInt a1)]) (H1 := mz_mk g361 x) rfl ?_
                  refine mz_ior rfl (fun v367 e_v367 hwv367 => ?_)
                  have b_v367 : 0 ≤ v367 ∧ v367 ≤ 3 := by rw [e_v367]; exact mz_or_lt (n := 2) (by decide) (by omega) (by omega) (by omega) (by omega)
                  have l_v367 := b_v367.1
                  have u_v367 := b_v367.2
                  replace hE := zf_tr hE (zf_le e_v367.symm)
                  exact mm_rt rfl rfl (hQ _ _ hIg361 (fun k j hk => ((hfg361 k j (fun h => hk (Or.elim h (fun h => (Or.inr (Or.inr (Or.inl h)))) (fun h => (Or.elim h (fun h => (Or.inr (Or.inr (Or.inr (Or.inl h))))) (fun h => (Or.elim h (fun h => (Or.inr (Or.inr (Or.inr (Or.inr (Or.inl h)))))) (fun h => (Or.elim h (fun h => (Or.inr (Or.inr (Or.inr (Or.inr (Or.inr (Or.inl h))))))) (fun h => (Or.elim h (fun h => (Or.inr (Or.inr (Or.inr (Or.inr (Or.inr (Or.inr (Or.inl h)))))))) (fun h => (Or.elim h (fun h => (Or.inl h)) (fun h => (Or.inr (Or.inl h)))))))))))))))).trans ((hfg351 k j (fun h => hk (Or.elim h (fun h => (Or.inl h)) (fun h => (Or.inr (Or.inl h)))))).trans (hfg337 k j (fun h => hk (Or.elim h (fun h => (Or.inl h)) (fun h => (Or.inr (Or.inl h))))))))) (by omega) (by omega) (by have h91 := (show g361 137 17 = (g 137 17) from ((hfg361 137 17 nj_59).trans ((hfg351 137 17 nj_13).trans ((hfg337 137 17 nj_13).trans rfl)))); omega) (by have h91 := (show g361 137 17 = (g 137 17) from ((hfg361 137 17 nj_59).trans ((hfg351 137 17 nj_13).trans ((hfg337 137 17 nj_13).trans rfl)))); omega) (by have h91 := (show g361 137 17 = (g 137 17) from ((hfg361 137 17 nj_59).trans ((hfg351 137 17 nj_13).trans ((hfg337 137 17 nj_13).trans rfl)))); omega) (by have h91 := (show g361 137 17 = (g 137 17) from ((hfg361 137 17 nj_59).trans ((hfg351 137 17 nj_13).trans ((hfg337 137 17 nj_13).trans rfl)))); omega) (by have h := p2; first | exact mz_TI_d (ti366 h) (by omega) | exact mz_TI_bad (ti366 h) (by omega)) kk366 hE)
                · skip
                  replace hE := zf_in hE c112_349
                  refine mm_g 1 (pc1 := 116) (lo1 := [some (.ref 137), some (.int (Int32.ofInt a1)), some (.int (Int32.ofInt v7)), some (.int (Int32.ofInt 2))]) (st1 := [.ref 137]) (H1 := mz_mk g337 x) rfl ?_
                  have hq368 : g337 137 16 = (g 137 16) := (show g337 137 16 = (g 137 16) from ((hfg337 137 16 nj_12).trans rfl))
                  have hq369 : g337 137 17 = (g 137 17) := (show g337 137 17 = (g 137 17) from ((hfg337 137 17 nj_13).trans rfl))
                  have hq370 : g337 137 18 = (g 137 18) := (show g337 137 18 = (g 137 18) from ((hfg337 137 18 nj_14).trans rfl))
                  have hq371 : g337 137 20 = (g 137 20) := (show g337 137 20 = (g 137 20) from ((hfg337 137 20 nj_15).trans rfl))
                  have hq372 : g337 137 21 = (g 137 21) := (show g337 137 21 = (g 137 21) from ((hfg337 137 21 nj_16).trans rfl))
                  have hq374 : g337 140 4 = (g 140 4) := (show g337 140 4 = (g 140 4) from ((hfg337 140 4 nj_18).trans rfl))
                  have hq375 : g337 140 5 = (g 140 5) := (show g337 140 5 = (g 140 5) from ((hfg337 140 5 nj_18).trans rfl))
                  have hq376 : g337 140 6 = (g 140 6) := (show g337 140 6 = (g 140 6) from ((hfg337 140 6 nj_18).trans rfl))
                  have hq377 : g337 140 7 = (g 140 7) := (show g337 140 7 = (g 140 7) from ((hfg337 140 7 nj_18).trans rfl))
                  refine mz_cv rfl mt_12_291 (by decide) (sc_137 _) rfl (Nat.le_of_ble_eq_true rfl) (by omega) (f_X12_sayWord (by omega) hx hIg337 (by have h90 := (show g337 137 16 = (g 137 16) from ((hfg337 137 16 nj_12).trans rfl)); have h91 := (show g337 137 17 = (g 137 17) from ((hfg337 137 17 nj_13).trans rfl)); have h92 := (show g337 137 18 = (g 137 18) from ((hfg337 137 18 nj_14).trans rfl)); have h93 := (show g337 137 20 = (g 137 20) from ((hfg337 137 20 nj_15).trans rfl)); have h94 := (show g337 137 21 = (g 137 21) from ((hfg337 137 21 nj_16).trans rfl)); omega) (fun g378 hIg378 hfg378 hp379 hp380 hp381 hp382 hp383 hp384 hc385 => ⟨_, rfl, ?_⟩))
                  show mm_W d mmX12_readLine 119 [some (.ref 137), some (.int (Int32.ofInt a1)), some (.int (Int32.ofInt v7)), some (.int (Int32.ofInt 2))] [] (mz_mk g378 x) Q
                  replace hE := zf_t1 hE hc385
                  have bz_g378_16 := mz_rd hIg378 bd_137_16
                  have hk_g378_17 : g378 137 17 = (g 137 17) := (show g378 137 17 = (g 137 17) from ((hfg378 137 17 nj_77).trans ((hfg337 137 17 nj_13).trans rfl)))
                  have bz_g378_18 := mz_rd hIg378 bd_137_18
                  have bz_g378_20 := mz_rd hIg378 bd_137_20
                  have bz_g378_21 := mz_rd hIg378 bd_137_21
                  have bz_g378_22 := mz_rd hIg378 bd_137_22
                  have bt_g378_4 := mz_rd hIg378 bt_140_4
                  have hk_g378_5 : g378 140 5 = (g 140 5) := (show g378 140 5 = (g 140 5) from ((hfg378 140 5 nj_78).trans ((hfg337 140 5 nj_18).trans rfl)))
                  have hk_g378_6 : g378 140 6 = (g 140 6) := (show g378 140 6 = (g 140 6) from ((hfg378 140 6 nj_79).trans ((hfg337 140 6 nj_18).trans rfl)))
                  have hk_g378_7 : g378 140 7 = (g 140 7) := (show g378 140 7 = (g 140 7) from ((hfg378 140 7 nj_80).trans ((hfg337 140 7 nj_18).trans rfl)))
                  have ti385 : mz_TI g a1 → mz_TI g378 a1 := fun h => mz_TI_word (ti340 h) hp383 (by omega) (hfg378 140 5 nj_78) (hfg378 140 7 nj_80) (fun j => (hfg378 145 j nj_81)) (fun j => (hfg378 146 j nj_82)) (fun j => (hfg378 149 j nj_83)) (by intro hb; omega)
                  have kk385 : mz_K1 g g378 := mz_K1_tr kk340 ⟨(fun j hj => (hfg378 140 j (fun h => (Or.elim h (fun h => (absurd (show 140 = 137 from (h).1) (by decide))) (fun h => (Or.elim h (fun h => (absurd (show 140 = 137 from (h).1) (by decide))) (fun h => (Or.elim h (fun h => (absurd (show 140 = 137 from (h).1) (by decide))) (fun h => (Or.elim h (fun h => (absurd (show 140 = 137 from (h).1) (by decide))) (fun h => (Or.elim h (fun h => (absurd (show 140 = 137 from (h).1) (by decide))) (fun h => (Or.elim h (fun h => (absurd (show 140 = 137 from (h).1) (by decide))) (fun h => (Or.elim h (fun h => (absurd (show 140 = 137 from (h).1) (by decide))) (fun h => (Or.elim h (fun h => (absurd (show 140 = 141 from h) (by decide))) (fun h => (Or.elim h (fun h => (absurd (show 140 = 142 from h) (by decide))) (fun h => (Or.elim h (fun h => (absurd (show 140 = 143 from h) (by decide))) (fun h => (by have h9 : (140 = 140 ∧ j = 4) := h; omega)))))))))))))))))))))))), hp382, (fun j hj => (hfg378 149 j nj_83))⟩
                  have mo_g378 : g 137 20 ≤ g378 137 20 := by omega
                  replace p1 := mz_hd p1
                  refine mz_gt (tgt := 127) rfl rfl ?_
                  refine mm_g 1 (pc1 := 128) (lo1 := [some (.ref 137), some (.int (Int32.ofInt a1)), some (.int (Int32.ofInt v7)), some (.int (Int32.ofInt 2))]) (st1 := [.ref 137]) (H1 := mz_mk g378 x) rfl ?_
                  refine mz_bip rfl bip_59 ?_
                  have hq387 : g378 137 17 = (g 137 17) := (show g378 137 17 = (g 137 17) from ((hfg378 137 17 nj_77).trans ((hfg337 137 17 nj_13).trans rfl)))
                  refine mz_cv rfl mt_12_244 (by decide) (sc_137 _) rfl (Nat.le_of_ble_eq_true rfl) (by omega) (f_X12_mark (by omega) hx hIg378 (by decide) (by decide) (by have h91 := (show g378 137 17 = (g 137 17) from ((hfg378 137 17 nj_77).trans ((hfg337 137 17 nj_13).trans rfl))); omega) (fun g392 hIg392 hfg392 hp393 hp394 hp395 hp396 hc397 => ⟨_, rfl, ?_⟩))
                  show mm_W d mmX12_readLine 133 [some (.ref 137), some (.int (Int32.ofInt a1)), some (.int (Int32.ofInt v7)), some (.int (Int32.ofInt 2))] [] (mz_mk g392 x) Q
                  replace hE := zf_t1 hE hc397
                  have bz_g392_16 := mz_rd hIg392 bd_137_16
                  have hk_g392_17 : g392 137 17 = (g 137 17) := (show g392 137 17 = (g 137 17) from ((hfg392 137 17 nj_59).trans ((hfg378 137 17 nj_77).trans ((hfg337 137 17 nj_13).trans rfl))))
                  have bz_g392_18 := mz_rd hIg392 bd_137_18
                  have bz_g392_20 := mz_rd hIg392 bd_137_20
                  have bz_g392_21 := mz_rd hIg392 bd_137_21
                  have bz_g392_22 := mz_rd hIg392 bd_137_22
                  have ti397 : mz_TI g a1 → mz_TI g392 a1 := fun h => mz_TI_tok (ti385 h) (fun j hj => (hfg392 140 j nj_60)) (fun j => (hfg392 142 j nj_69)) (fun j => (hfg392 145 j nj_72)) (fun j => (hfg392 146 j nj_73)) (fun j => (hfg392 149 j nj_62)) (by intro hb; omega)
                  have kk397 : mz_K1 g g392 := mz_K1_tr kk385 ⟨(fun j hj => (hfg392 140 j nj_60)), (fun j hj => (hfg392 142 j nj_69)), (fun j hj => (hfg392 149 j nj_62))⟩
                  have mo_g392 : g 137 20 ≤ g392 137 20 := by omega
                  replace hp379 := mz_hd hp379
                  refine mm_g 2 (pc1 := 135) (lo1 := [some (.ref 137), some (.int (Int32.ofInt a1)), some (.int (Int32.ofInt v7)), some (.int (Int32.ofInt 2))]) (st1 := [.int (Int32.ofInt 2), .int (Int32.ofInt a1)]) (H1 := mz_mk g392 x) rfl ?_
                  refine mz_ior rfl (fun v398 e_v398 hwv398 => ?_)
                  have b_v398 : 0 ≤ v398 ∧ v398 ≤ 3 := by rw [e_v398]; exact mz_or_lt (n := 2) (by decide) (by omega) (by omega) (by omega) (by omega)
                  have l_v398 := b_v398.1
                  have u_v398 := b_v398.2
                  replace hE := zf_tr hE (zf_le e_v398.symm)
                  exact mm_rt rfl rfl (hQ _ _ hIg392 (fun k j hk => ((hfg392 k j (fun h => hk (Or.elim h (fun h => (Or.inr (Or.inr (Or.inl h)))) (fun h => (Or.elim h (fun h => (Or.inr (Or.inr (Or.inr (Or.inl h))))) (fun h => (Or.elim h (fun h => (Or.inr (Or.inr (Or.inr (Or.inr (Or.inl h)))))) (fun h => (Or.elim h (fun h => (Or.inr (Or.inr (Or.inr (Or.inr (Or.inr (Or.inl h))))))) (fun h => (Or.elim h (fun h => (Or.inr (Or.inr (Or.inr (Or.inr (Or.inr (Or.inr (Or.inl h)))))))) (fun h => (Or.elim h (fun h => (Or.inl h)) (fun h => (Or.inr (Or.inl h)))))))))))))))).trans ((hfg378 k j (fun h => hk (Or.elim h (fun h => (Or.inr (Or.inr (Or.inl h)))) (fun h => (Or.elim h (fun h => (Or.inr (Or.inr (Or.inr (Or.inl h))))) (fun h => (Or.elim h (fun h => (Or.inr (Or.inr (Or.inr (Or.inr (Or.inl h)))))) (fun h => (Or.elim h (fun h => (Or.inr (Or.inr (Or.inr (Or.inr (Or.inr (Or.inl h))))))) (fun h => (Or.elim h (fun h => (Or.inr (Or.inr (Or.inr (Or.inr (Or.inr (Or.inr (Or.inl h)))))))) (fun h => (Or.elim h (fun h => (Or.inl h)) (fun h => (Or.elim h (fun h => (Or.inr (Or.inl h))) (fun h => (Or.elim h (fun h => (Or.inr (Or.inr (Or.inr (Or.inr (Or.inr (Or.inr (Or.inr (Or.inl h))))))))) (fun h => (Or.elim h (fun h => (Or.inr (Or.inr (Or.inr (Or.inr (Or.inr (Or.inr (Or.inr (Or.inr (Or.inl h)))))))))) (fun h => (Or.elim h (fun h => (Or.inr (Or.inr (Or.inr (Or.inr (Or.inr (Or.inr (Or.inr (Or.inr (Or.inr (Or.inl h))))))))))) (fun h => (Or.inr (Or.inr (Or.inr (Or.inr (Or.inr (Or.inr (Or.inr (Or.inr (Or.inr (Or.inr (Or.inl h))))))))))))))))))))))))))))))))).trans (hfg337 k j (fun h => hk (Or.elim h (fun h => (Or.inl h)) (fun h => (Or.inr (Or.inl h))))))))) (by omega) (by omega) (by have h91 := (show g392 137 17 = (g 137 17) from ((hfg392 137 17 nj_59).trans ((hfg378 137 17 nj_77).trans ((hfg337 137 17 nj_13).trans rfl)))); omega) (by have h91 := (show g392 137 17 = (g 137 17) from ((hfg392 137 17 nj_59).trans ((hfg378 137 17 nj_77).trans ((hfg337 137 17 nj_13).trans rfl)))); omega) (by have h91 := (show g392 137 17 = (g 137 17) from ((hfg392 137 17 nj_59).trans ((hfg378 137 17 nj_77).trans ((hfg337 137 17 nj_13).trans rfl)))); omega) (by have h91 := (show g392 137 17 = (g 137 17) from ((hfg392 137 17 nj_59).trans ((hfg378 137 17 nj_77).trans ((hfg337 137 17 nj_13).trans rfl)))); omega) (by have h := p2; first | exact mz_TI_d (ti397 h) (by omega) | exact mz_TI_bad (ti397 h) (by omega)) kk397 hE)
              · skip
                replace hE := zf_in hE c94_340
                refine mm_g 2 (pc1 := 99) (lo1 := [some (.ref 137), some (.int (Int32.ofInt a1)), some (.int (Int32.ofInt v7)), some (.int (Int32.ofInt 2))]) (st1 := [.int (Int32.ofInt v7), .ref 137]) (H1 := mz_mk g337 x) rfl ?_
                have hq399 : g337 137 16 = (g 137 16) := (show g337 137 16 = (g 137 16) from ((hfg337 137 16 nj_12).trans rfl))
                have hq400 : g337 137 17 = (g 137 17) := (show g337 137 17 = (g 137 17) from ((hfg337 137 17 nj_13).trans rfl))
                have hq401 : g337 137 18 = (g 137 18) := (show g337 137 18 = (g 137 18) from ((hfg337 137 18 nj_14).trans rfl))
                have hq402 : g337 137 20 = (g 137 20) := (show g337 137 20 = (g 137 20) from ((hfg337 137 20 nj_15).trans rfl))
                have hq403 : g337 137 21 = (g 137 21) := (show g337 137 21 = (g 137 21) from ((hfg337 137 21 nj_16).trans rfl))
                have hq405 : g337 140 4 = (g 140 4) := (show g337 140 4 = (g 140 4) from ((hfg337 140 4 nj_18).trans rfl))
                have hq406 : g337 140 5 = (g 140 5) := (show g337 140 5 = (g 140 5) from ((hfg337 140 5 nj_18).trans rfl))
                have hq407 : g337 140 6 = (g 140 6) := (show g337 140 6 = (g 140 6) from ((hfg337 140 6 nj_18).trans rfl))
                have hq408 : g337 140 7 = (g 140 7) := (show g337 140 7 = (g 140 7) from ((hfg337 140 7 nj_18).trans rfl))
                refine mz_cv rfl mt_12_286 (by decide) (sc_137 _) rfl (Nat.le_of_ble_eq_true rfl) (by omega) (f_X12_sayTrunk (by omega) hx hIg337 (by omega) (by omega) (by have h90 := (show g337 137 16 = (g 137 16) from ((hfg337 137 16 nj_12).trans rfl)); have h91 := (show g337 137 17 = (g 137 17) from ((hfg337 137 17 nj_13).trans rfl)); have h92 := (show g337 137 18 = (g 137 18) from ((hfg337 137 18 nj_14).trans rfl)); have h93 := (show g337 137 20 = (g 137 20) from ((hfg337 137 20 nj_15).trans rfl)); have h94 := (show g337 137 21 = (g 137 21) from ((hfg337 137 21 nj_16).trans rfl)); omega) (fun g409 hIg409 hfg409 hp410 hp411 hp412 hp413 hc414 => ⟨_, rfl, ?_⟩))
                show mm_W d mmX12_readLine 102 [some (.ref 137), some (.int (Int32.ofInt a1)), some (.int (Int32.ofInt v7)), some (.int (Int32.ofInt 2))] [] (mz_mk g409 x) Q
                replace hE := zf_t1 hE hc414
                have bz_g409_16 := mz_rd hIg409 bd_137_16
                have hk_g409_17 : g409 137 17 = (g 137 17) := (show g409 137 17 = (g 137 17) from ((hfg409 137 17 nj_84).trans ((hfg337 137 17 nj_13).trans rfl)))
                have bz_g409_18 := mz_rd hIg409 bd_137_18
                have bz_g409_20 := mz_rd hIg409 bd_137_20
                have bz_g409_21 := mz_rd hIg409 bd_137_21
                have bz_g409_22 := mz_rd hIg409 bd_137_22
                have hk_g409_4 : g409 140 4 = (g 140 4) := (show g409 140 4 = (g 140 4) from ((hfg409 140 4 nj_85).trans ((hfg337 140 4 nj_18).trans rfl)))
                have bt_g409_5 := mz_rd hIg409 bt_140_5
                have hk_g409_6 : g409 140 6 = (g 140 6) := (show g409 140 6 = (g 140 6) from ((hfg409 140 6 nj_86).trans ((hfg337 140 6 nj_18).trans rfl)))
                have hk_g409_7 : g409 140 7 = (g 140 7) := (show g409 140 7 = (g 140 7) from ((hfg409 140 7 nj_87).trans ((hfg337 140 7 nj_18).trans rfl)))
                have ti414 : mz_TI g a1 → mz_TI g409 a1 := fun h => mz_TI_trunk (ti340 h) hp413 (hfg409 140 4 nj_85) (hfg409 140 7 nj_87) (fun j => (hfg409 142 j nj_88)) (fun j => (hfg409 149 j nj_89)) (by intro hb; omega)
                have kk414 : mz_K1 g g409 := mz_K1_tr kk340 ⟨(fun j hj => (hfg409 140 j (fun h => (Or.elim h (fun h => (absurd (show 140 = 137 from (h).1) (by decide))) (fun h => (Or.elim h (fun h => (absurd (show 140 = 137 from (h).1) (by decide))) (fun h => (Or.elim h (fun h => (absurd (show 140 = 137 from (h).1) (by decide))) (fun h => (Or.elim h (fun h => (absurd (show 140 = 137 from (h).1) (by decide))) (fun h => (Or.elim h (fun h => (absurd (show 140 = 137 from (h).1) (by decide))) (fun h => (Or.elim h (fun h => (absurd (show 140 = 137 from (h).1) (by decide))) (fun h => (Or.elim h (fun h => (absurd (show 140 = 137 from (h).1) (by decide))) (fun h => (Or.elim h (fun h => (absurd (show 140 = 144 from h) (by decide))) (fun h => (Or.elim h (fun h => (absurd (show 140 = 145 from h) (by decide))) (fun h => (Or.elim h (fun h => (absurd (show 140 = 146 from h) (by decide))) (fun h => (Or.elim h (fun h => (absurd (show 140 = 147 from h) (by decide))) (fun h => (by have h9 : (140 = 140 ∧ j = 5) := h; omega)))))))))))))))))))))))))), (fun j hj => (hfg409 142 j nj_88)), (fun j hj => (hfg409 149 j nj_89))⟩
                have mo_g409 : g 137 20 ≤ g409 137 20 := by omega
                replace p1 := mz_hd p1
                refine mz_gt (tgt := 127) rfl rfl ?_
                refine mm_g 1 (pc1 := 128) (lo1 := [some (.ref 137), some (.int (Int32.ofInt a1)), some (.int (Int32.ofInt v7)), some (.int (Int32.ofInt 2))]) (st1 := [.ref 137]) (H1 := mz_mk g409 x) rfl ?_
                refine mz_bip rfl bip_59 ?_
                have hq416 : g409 137 17 = (g 137 17) := (show g409 137 17 = (g 137 17) from ((hfg409 137 17 nj_84).trans ((hfg337 137 17 nj_13).trans rfl)))
                refine mz_cv rfl mt_12_244 (by decide) (sc_137 _) rfl (Nat.le_of_ble_eq_true rfl) (by omega) (f_X12_mark (by omega) hx hIg409 (by decide) (by decide) (by have h91 := (show g409 137 17 = (g 137 17) from ((hfg409 137 17 nj_84).trans ((hfg337 137 17 nj_13).trans rfl))); omega) (fun g421 hIg421 hfg421 hp422 hp423 hp424 hp425 hc426 => ⟨_, rfl, ?_⟩))
                show mm_W d mmX12_readLine 133 [some (.ref 137), some (.int (Int32.ofInt a1)), some (.int (Int32.ofInt v7)), some (.int (Int32.ofInt 2))] [] (mz_mk g421 x) Q
                replace hE := zf_t1 hE hc426
                have bz_g421_16 := mz_rd hIg421 bd_137_16
                have hk_g421_17 : g421 137 17 = (g 137 17) := (show g421 137 17 = (g 137 17) from ((hfg421 137 17 nj_59).trans ((hfg409 137 17 nj_84).trans ((hfg337 137 17 nj_13).trans rfl))))
                have bz_g421_18 := mz_rd hIg421 bd_137_18
                have bz_g421_20 := mz_rd hIg421 bd_137_20
                have bz_g421_21 := mz_rd hIg421 bd_137_21
                have bz_g421_22 := mz_rd hIg421 bd_137_22
                have ti426 : mz_TI g a1 → mz_TI g421 a1 := fun h => mz_TI_tok (ti414 h) (fun j hj => (hfg421 140 j nj_60)) (fun j => (hfg421 142 j nj_69)) (fun j => (hfg421 145 j nj_72)) (fun j => (hfg421 146 j nj_73)) (fun j => (hfg421 149 j nj_62)) (by intro hb; omega)
                have kk426 : mz_K1 g g421 := mz_K1_tr kk414 ⟨(fun j hj => (hfg421 140 j nj_60)), (fun j hj => (hfg421 142 j nj_69)), (fun j hj => (hfg421 149 j nj_62))⟩
                have mo_g421 : g 137 20 ≤ g421 137 20 := by omega
                replace hp410 := mz_hd hp410
                refine mm_g 2 (pc1 := 135) (lo1 := [some (.ref 137), some (.int (Int32.ofInt a1)), some (.int (Int32.ofInt v7)), some (.int (Int32.ofInt 2))]) (st1 := [.int (Int32.ofInt 2), .int (Int32.ofInt a1)]) (H1 := mz_mk g421 x) rfl ?_
                refine mz_ior rfl (fun v427 e_v427 hwv427 => ?_)
                have b_v427 : 0 ≤ v427 ∧ v427 ≤ 3 := by rw [e_v427]; exact mz_or_lt (n := 2) (by decide) (by omega) (by omega) (by omega) (by omega)
                have l_v427 := b_v427.1
                have u_v427 := b_v427.2
                replace hE := zf_tr hE (zf_le e_v427.symm)
                exact mm_rt rfl rfl (hQ _ _ hIg421 (fun k j hk => ((hfg421 k j (fun h => hk (Or.elim h (fun h => (Or.inr (Or.inr (Or.inl h)))) (fun h => (Or.elim h (fun h => (Or.inr (Or.inr (Or.inr (Or.inl h))))) (fun h => (Or.elim h (fun h => (Or.inr (Or.inr (Or.inr (Or.inr (Or.inl h)))))) (fun h => (Or.elim h (fun h => (Or.inr (Or.inr (Or.inr (Or.inr (Or.inr (Or.inl h))))))) (fun h => (Or.elim h (fun h => (Or.inr (Or.inr (Or.inr (Or.inr (Or.inr (Or.inr (Or.inl h)))))))) (fun h => (Or.elim h (fun h => (Or.inl h)) (fun h => (Or.inr (Or.inl h)))))))))))))))).trans ((hfg409 k j (fun h => hk (Or.elim h (fun h => (Or.inr (Or.inr (Or.inl h)))) (fun h => (Or.elim h (fun h => (Or.inr (Or.inr (Or.inr (Or.inl h))))) (fun h => (Or.elim h (fun h => (Or.inr (Or.inr (Or.inr (Or.inr (Or.inl h)))))) (fun h => (Or.elim h (fun h => (Or.inr (Or.inr (Or.inr (Or.inr (Or.inr (Or.inl h))))))) (fun h => (Or.elim h (fun h => (Or.inr (Or.inr (Or.inr (Or.inr (Or.inr (Or.inr (Or.inl h)))))))) (fun h => (Or.elim h (fun h => (Or.inl h)) (fun h => (Or.elim h (fun h => (Or.inr (Or.inl h))) (fun h => (Or.elim h (fun h => (Or.inr (Or.inr (Or.inr (Or.inr (Or.inr (Or.inr (Or.inr (Or.inr (Or.inr (Or.inr (Or.inr (Or.inl h))))))))))))) (fun h => (Or.elim h (fun h => (Or.inr (Or.inr (Or.inr (Or.inr (Or.inr (Or.inr (Or.inr (Or.inr (Or.inr (Or.inr (Or.inr (Or.inr (Or.inl h)))))))))))))) (fun h => (Or.elim h (fun h => (Or.inr (Or.inr (Or.inr (Or.inr (Or.inr (Or.inr (Or.inr (Or.inr (Or.inr (Or.inr (Or.inr (Or.inr (Or.inr (Or.inl h))))))))))))))) (fun h => (Or.elim h (fun h => (Or.inr (Or.inr (Or.inr (Or.inr (Or.inr (Or.inr (Or.inr (Or.inr (Or.inr (Or.inr (Or.inr (Or.inr (Or.inr (Or.inr (Or.inl h)))))))))))))))) (fun h => (Or.inr (Or.inr (Or.inr (Or.inr (Or.inr (Or.inr (Or.inr (Or.inr (Or.inr (Or.inr (Or.inr (Or.inr (Or.inr (Or.inr (Or.inr (Or.inl h)))))))))))))))))))))))))))))))))))))))).trans (hfg337 k j (fun h => hk (Or.elim h (fun h => (Or.inl h)) (fun h => (Or.inr (Or.inl h))))))))) (by omega) (by omega) (by have h91 := (show g421 137 17 = (g 137 17) from ((hfg421 137 17 nj_59).trans ((hfg409 137 17 nj_84).trans ((hfg337 137 17 nj_13).trans rfl)))); omega) (by have h91 := (show g421 137 17 = (g 137 17) from ((hfg421 137 17 nj_59).trans ((hfg409 137 17 nj_84).trans ((hfg337 137 17 nj_13).trans rfl)))); omega) (by have h91 := (show g421 137 17 = (g 137 17) from ((hfg421 137 17 nj_59).trans ((hfg409 137 17 nj_84).trans ((hfg337 137 17 nj_13).trans rfl)))); omega) (by have h91 := (show g421 137 17 = (g 137 17) from ((hfg421 137 17 nj_59).trans ((hfg409 137 17 nj_84).trans ((hfg337 137 17 nj_13).trans rfl)))); omega) (by have h := p2; first | exact mz_TI_d (ti426 h) (by omega) | exact mz_TI_bad (ti426 h) (by omega)) kk426 hE)
            · skip
              replace hE := zf_ip hE c77_340
              refine mm_g 1 (pc1 := 81) (lo1 := [some (.ref 137), some (.int (Int32.ofInt a1)), some (.int (Int32.ofInt v7)), some (.int (Int32.ofInt 2))]) (st1 := [.ref 137]) (H1 := mz_mk g337 x) rfl ?_
              have hq428 : g337 137 16 = (g 137 16) := (show g337 137 16 = (g 137 16) from ((hfg337 137 16 nj_12).trans rfl))
              have hq429 : g337 137 17 = (g 137 17) := (show g337 137 17 = (g 137 17) from ((hfg337 137 17 nj_13).trans rfl))
              have hq430 : g337 137 18 = (g 137 18) := (show g337 137 18 = (g 137 18) from ((hfg337 137 18 nj_14).trans rfl))
              have hq431 : g337 137 20 = (g 137 20) := (show g337 137 20 = (g 137 20) from ((hfg337 137 20 nj_15).trans rfl))
              have hq432 : g337 137 21 = (g 137 21) := (show g337 137 21 = (g 137 21) from ((hfg337 137 21 nj_16).trans rfl))
              refine mz_cv rfl mt_12_228 (by decide) (sc_137 _) rfl (Nat.le_of_ble_eq_true rfl) (by omega) (f_X12_stepOn (by omega) hx hIg337 (by have h90 := (show g337 137 16 = (g 137 16) from ((hfg337 137 16 nj_12).trans rfl)); have h91 := (show g337 137 17 = (g 137 17) from ((hfg337 137 17 nj_13).trans rfl)); omega) (fun g434 hIg434 hfg434 hp435 hp436 hc437 => ⟨_, rfl, ?_⟩))
              show mm_W d mmX12_readLine 84 [some (.ref 137), some (.int (Int32.ofInt a1)), some (.int (Int32.ofInt v7)), some (.int (Int32.ofInt 2))] [] (mz_mk g434 x) Q
              replace hE := zf_t1 hE hc437
              have bz_g434_16 := mz_rd hIg434 bd_137_16
              have hk_g434_17 : g434 137 17 = (g 137 17) := (show g434 137 17 = (g 137 17) from ((hfg434 137 17 nj_10).trans ((hfg337 137 17 nj_13).trans rfl)))
              have bz_g434_18 := mz_rd hIg434 bd_137_18
              have bz_g434_20 := mz_rd hIg434 bd_137_20
              have bz_g434_21 := mz_rd hIg434 bd_137_21
              have hk_g434_22 : g434 137 22 = (g337 137 22) := (show g434 137 22 = (g337 137 22) from ((hfg434 137 22 nj_11).trans rfl))
              have ti437 : mz_TI g a1 → mz_TI g434 a1 := fun h => mz_TI_tok (ti340 h) (fun j hj => (hfg434 140 j nj_64)) (fun j => (hfg434 142 j nj_70)) (fun j => (hfg434 145 j nj_90)) (fun j => (hfg434 146 j nj_91)) (fun j => (hfg434 149 j nj_65)) (by intro hb; have h90 := (show g434 137 22 = (g337 137 22) from ((hfg434 137 22 nj_11).trans rfl)); omega)
              have kk437 : mz_K1 g g434 := mz_K1_tr kk340 ⟨(fun j hj => (hfg434 140 j nj_64)), (fun j hj => (hfg434 142 j nj_70)), (fun j hj => (hfg434 149 j nj_65))⟩
              have mo_g434 : g 137 20 ≤ g434 137 20 := by omega
              replace p1 := mz_hd p1
              refine mm_g 2 (pc1 := 86) (lo1 := [some (.ref 137), some (.int (Int32.ofInt a1)), some (.int (Int32.ofInt v7)), some (.int (Int32.ofInt 2))]) (st1 := [.int (Int32.ofInt 0), .ref 137]) (H1 := mz_mk g434 x) rfl ?_
              have h7 : g 137 22 = 0 → g 140 7 = 0 := fun z => (mz_isU p2.2 z).2.2.1 (by omega)
              have hq439 : g434 137 17 = (g 137 17) := (show g434 137 17 = (g 137 17) from ((hfg434 137 17 nj_10).trans ((hfg337 137 17 nj_13).trans rfl)))
              have hq443 : g434 137 22 = (g337 137 22) := (show g434 137 22 = (g337 137 22) from ((hfg434 137 22 nj_11).trans rfl))
              have hq444 : g434 140 7 = (g 140 7) := (show g434 140 7 = (g 140 7) from ((hfg434 140 7 nj_64).trans ((hfg337 140 7 nj_18).trans rfl)))
              refine mz_cv rfl mt_12_247 (by decide) (sc_137 _) rfl (Nat.le_of_ble_eq_true rfl) (by omega) (mz_KF_use (mz_KF_all 7 0 (by decide) (by decide) (by decide)) (by omega) hx hIg434 (by decide) (by decide) (by have h91 := (show g434 137 17 = (g 137 17) from ((hfg434 137 17 nj_10).trans ((hfg337 137 17 nj_13).trans rfl))); have h95 := (show g434 137 22 = (g337 137 22) from ((hfg434 137 22 nj_11).trans rfl)); omega) (by have h91 := (show g434 137 17 = (g 137 17) from ((hfg434 137 17 nj_10).trans ((hfg337 137 17 nj_13).trans rfl))); have h95 := (show g434 137 22 = (g337 137 22) from ((hfg434 137 22 nj_11).trans rfl)); have h96 := (show g434 140 7 = (g 140 7) from ((hfg434 140 7 nj_64).trans ((hfg337 140 7 nj_18).trans rfl))); omega) (by have h91 := (show g434 137 17 = (g 137 17) from ((hfg434 137 17 nj_10).trans ((hfg337 137 17 nj_13).trans rfl))); have h95 := (show g434 137 22 = (g337 137 22) from ((hfg434 137 22 nj_11).trans rfl)); have h96 := (show g434 140 7 = (g 140 7) from ((hfg434 140 7 nj_64).trans ((hfg337 140 7 nj_18).trans rfl))); omega) (fun g445 hIg445 hfg445 hp446 hp447 hp448 hp449 hp450 hp451 hp452 hc453 => ⟨_, rfl, ?_⟩))
              show mm_W d mmX12_readLine 89 [some (.ref 137), some (.int (Int32.ofInt a1)), some (.int (Int32.ofInt v7)), some (.int (Int32.ofInt 2))] [] (mz_mk g445 x) Q
              replace hE := zf_t1 hE hc453
              have bz_g445_16 := mz_rd hIg445 bd_137_16
              have hk_g445_17 : g445 137 17 = (g 137 17) := (show g445 137 17 = (g 137 17) from ((hfg445 137 17 nj_61).trans ((hfg434 137 17 nj_10).trans ((hfg337 137 17 nj_13).trans rfl))))
              have bz_g445_18 := mz_rd hIg445 bd_137_18
              have bz_g445_20 := mz_rd hIg445 bd_137_20
              have bz_g445_21 := mz_rd hIg445 bd_137_21
              have bz_g445_22 := mz_rd hIg445 bd_137_22
              have bt_g445_7 := mz_rd hIg445 bt_140_7
              have ti453 : mz_TI g a1 → mz_TI g445 2 := fun h => mz_TI_rule (ti437 h) (by omega) (fun j hj => (hfg445 140 j (fun h => (Or.elim h (fun h => (absurd (show 140 = 137 from (h).1) (by decide))) (fun h => (Or.elim h (fun h => (absurd (show 140 = 137 from (h).1) (by decide))) (fun h => (Or.elim h (fun h => (absurd (show 140 = 137 from (h).1) (by decide))) (fun h => (Or.elim h (fun h => (absurd (show 140 = 137 from (h).1) (by decide))) (fun h => (Or.elim h (fun h => (absurd (show 140 = 137 from (h).1) (by decide))) (fun h => (Or.elim h (fun h => (absurd (show 140 = 137 from (h).1) (by decide))) (fun h => (Or.elim h (fun h => (absurd (show 140 = 137 from (h).1) (by decide))) (fun h => (Or.elim h (fun h => (absurd (show 140 = 149 from h) (by decide))) (fun h => (by have h9 : (140 = 140 ∧ j = 7) := h; omega)))))))))))))))))))) (fun j => (hfg445 142 j nj_92)) (fun j => (hfg445 145 j nj_93)) (fun j => (hfg445 146 j nj_94)) (by intro hb; omega) hp452
              have kk453 : mz_K1 g g445 := mz_K1_tr kk437 ⟨(fun j hj => (hfg445 140 j (fun h => (Or.elim h (fun h => (absurd (show 140 = 137 from (h).1) (by decide))) (fun h => (Or.elim h (fun h => (absurd (show 140 = 137 from (h).1) (by decide))) (fun h => (Or.elim h (fun h => (absurd (show 140 = 137 from (h).1) (by decide))) (fun h => (Or.elim h (fun h => (absurd (show 140 = 137 from (h).1) (by decide))) (fun h => (Or.elim h (fun h => (absurd (show 140 = 137 from (h).1) (by decide))) (fun h => (Or.elim h (fun h => (absurd (show 140 = 137 from (h).1) (by decide))) (fun h => (Or.elim h (fun h => (absurd (show 140 = 137 from (h).1) (by decide))) (fun h => (Or.elim h (fun h => (absurd (show 140 = 149 from h) (by decide))) (fun h => (by have h9 : (140 = 140 ∧ j = 7) := h; omega)))))))))))))))))))), (fun j hj => (hfg445 142 j nj_92)), (fun j hj => hp451 j (by omega))⟩
              have mo_g445 : g 137 20 ≤ g445 137 20 := by omega
              replace hp449 := mz_hd hp449
              replace hp450 := mz_hd hp450
              replace hp435 := mz_hd hp435
              refine mz_gt (tgt := 127) rfl rfl ?_
              refine mm_g 1 (pc1 := 128) (lo1 := [some (.ref 137), some (.int (Int32.ofInt a1)), some (.int (Int32.ofInt v7)), some (.int (Int32.ofInt 2))]) (st1 := [.ref 137]) (H1 := mz_mk g445 x) rfl ?_
              refine mz_bip rfl bip_59 ?_
              have hq455 : g445 137 17 = (g 137 17) := (show g445 137 17 = (g 137 17) from ((hfg445 137 17 nj_61).trans ((hfg434 137 17 nj_10).trans ((hfg337 137 17 nj_13).trans rfl))))
              refine mz_cv rfl mt_12_244 (by decide) (sc_137 _) rfl (Nat.le_of_ble_eq_true rfl) (by omega) (f_X12_mark (by omega) hx hIg445 (by decide) (by decide) (by have h91 := (show g445 137 17 = (g 137 17) from ((hfg445 137 17 nj_61).trans ((hfg434 137 17 nj_10).trans ((hfg337 137 17 nj_13).trans rfl)))); omega) (fun g460 hIg460 hfg460 hp461 hp462 hp463 hp464 hc465 => ⟨_, rfl, ?_⟩))
              show mm_W d mmX12_readLine 133 [some (.ref 137), some (.int (Int32.ofInt a1)), some (.int (Int32.ofInt v7)), some (.int (Int32.ofInt 2))] [] (mz_mk g460 x) Q
              replace hE := zf_t1 hE hc465
              have bz_g460_16 := mz_rd hIg460 bd_137_16
              have hk_g460_17 : g460 137 17 = (g 137 17) := (show g460 137 17 = (g 137 17) from ((hfg460 137 17 nj_59).trans ((hfg445 137 17 nj_61).trans ((hfg434 137 17 nj_10).trans ((hfg337 137 17 nj_13).trans rfl)))))
              have bz_g460_18 := mz_rd hIg460 bd_137_18
              have bz_g460_20 := mz_rd hIg460 bd_137_20
              have bz_g460_21 := mz_rd hIg460 bd_137_21
              have bz_g460_22 := mz_rd hIg460 bd_137_22
              have ti465 : mz_TI g a1 → mz_TI g460 2 := fun h => mz_TI_tok (ti453 h) (fun j hj => (hfg460 140 j nj_60)) (fun j => (hfg460 142 j nj_69)) (fun j => (hfg460 145 j nj_72)) (fun j => (hfg460 146 j nj_73)) (fun j => (hfg460 149 j nj_62)) (by intro hb; omega)
              have kk465 : mz_K1 g g460 := mz_K1_tr kk453 ⟨(fun j hj => (hfg460 140 j nj_60)), (fun j hj => (hfg460 142 j nj_69)), (fun j hj => (hfg460 149 j nj_62))⟩
              have mo_g460 : g 137 20 ≤ g460 137 20 := by omega
              replace hp446 := mz_hd hp446
              refine mm_g 2 (pc1 := 135) (lo1 := [some (.ref 137), some (.int (Int32.ofInt a1)), some (.int (Int32.ofInt v7)), some (.int (Int32.ofInt 2))]) (st1 := [.int (Int32.ofInt 2), .int (Int32.ofInt a1)]) (H1 := mz_mk g460 x) rfl ?_
              refine mz_ior rfl (fun v466 e_v466 hwv466 => ?_)
              have b_v466 : 0 ≤ v466 ∧ v466 ≤ 3 := by rw [e_v466]; exact mz_or_lt (n := 2) (by decide) (by omega) (by omega) (by omega) (by omega)
              have l_v466 := b_v466.1
              have u_v466 := b_v466.2
              replace hE := zf_tr hE (zf_le e_v466.symm)
              exact mm_rt rfl rfl (hQ _ _ hIg460 (fun k j hk => ((hfg460 k j (fun h => hk (Or.elim h (fun h => (Or.inr (Or.inr (Or.inl h)))) (fun h => (Or.elim h (fun h => (Or.inr (Or.inr (Or.inr (Or.inl h))))) (fun h => (Or.elim h (fun h => (Or.inr (Or.inr (Or.inr (Or.inr (Or.inl h)))))) (fun h => (Or.elim h (fun h => (Or.inr (Or.inr (Or.inr (Or.inr (Or.inr (Or.inl h))))))) (fun h => (Or.elim h (fun h => (Or.inr (Or.inr (Or.inr (Or.inr (Or.inr (Or.inr (Or.inl h)))))))) (fun h => (Or.elim h (fun h => (Or.inl h)) (fun h => (Or.inr (Or.inl h)))))))))))))))).trans ((hfg445 k j (fun h => hk (Or.elim h (fun h => (Or.inl h)) (fun h => (Or.elim h (fun h => (Or.inr (Or.inl h))) (fun h => (Or.elim h (fun h => (Or.inr (Or.inr (Or.inl h)))) (fun h => (Or.elim h (fun h => (Or.inr (Or.inr (Or.inr (Or.inl h))))) (fun h => (Or.elim h (fun h => (Or.inr (Or.inr (Or.inr (Or.inr (Or.inl h)))))) (fun h => (Or.elim h (fun h => (Or.inr (Or.inr (Or.inr (Or.inr (Or.inr (Or.inl h))))))) (fun h => (Or.elim h (fun h => (Or.inr (Or.inr (Or.inr (Or.inr (Or.inr (Or.inr (Or.inl h)))))))) (fun h => (Or.elim h (fun h => (Or.inr (Or.inr (Or.inr (Or.inr (Or.inr (Or.inr (Or.inr (Or.inr (Or.inr (Or.inr (Or.inr (Or.inr (Or.inr (Or.inr (Or.inr (Or.inr (Or.inl h)))))))))))))))))) (fun h => (Or.inr (Or.inr (Or.inr (Or.inr (Or.inr (Or.inr (Or.inr (Or.inr (Or.inr (Or.inr (Or.inr (Or.inr (Or.inr (Or.inr (Or.inr (Or.inr (Or.inr (Or.inl h)))))))))))))))))))))))))))))))))))).trans ((hfg434 k j (fun h => hk (Or.elim h (fun h => (Or.inr (Or.inr (Or.inl h)))) (fun h => (Or.elim h (fun h => (Or.inr (Or.inr (Or.inr (Or.inl h))))) (fun h => (Or.elim h (fun h => (Or.inr (Or.inr (Or.inr (Or.inr (Or.inl h)))))) (fun h => (Or.elim h (fun h => (Or.inr (Or.inr (Or.inr (Or.inr (Or.inr (Or.inl h))))))) (fun h => (Or.inr (Or.inr (Or.inr (Or.inr (Or.inr (Or.inr (Or.inl h))))))))))))))))).trans (hfg337 k j (fun h => hk (Or.elim h (fun h => (Or.inl h)) (fun h => (Or.inr (Or.inl h)))))))))) (by omega) (by omega) (by have h91 := (show g460 137 17 = (g 137 17) from ((hfg460 137 17 nj_59).trans ((hfg445 137 17 nj_61).trans ((hfg434 137 17 nj_10).trans ((hfg337 137 17 nj_13).trans rfl))))); omega) (by have h91 := (show g460 137 17 = (g 137 17) from ((hfg460 137 17 nj_59).trans ((hfg445 137 17 nj_61).trans ((hfg434 137 17 nj_10).trans ((hfg337 137 17 nj_13).trans rfl))))); omega) (by have h91 := (show g460 137 17 = (g 137 17) from ((hfg460 137 17 nj_59).trans ((hfg445 137 17 nj_61).trans ((hfg434 137 17 nj_10).trans ((hfg337 137 17 nj_13).trans rfl))))); omega) (by have h91 := (show g460 137 17 = (g 137 17) from ((hfg460 137 17 nj_59).trans ((hfg445 137 17 nj_61).trans ((hfg434 137 17 nj_10).trans ((hfg337 137 17 nj_13).trans rfl))))); omega) (by have h := p2; first | exact mz_TI_d (ti465 h) (by omega) | exact mz_TI_bad (ti465 h) (by omega)) kk465 hE)
        · exfalso; omega
  · skip
    replace hE := zf_in hE c15_19
    refine mm_g 1 (pc1 := 19) (lo1 := [some (.ref 137), some (.int (Int32.ofInt a1)), some (.int (Int32.ofInt v7)), none]) (st1 := [.int (Int32.ofInt 1)]) (H1 := mz_mk g x) rfl ?_
    refine mz_gt (tgt := 37) rfl rfl ?_
    refine mm_g 3 (pc1 := 40) (lo1 := [some (.ref 137), some (.int (Int32.ofInt a1)), some (.int (Int32.ofInt v7)), some (.int (Int32.ofInt 1))]) (st1 := [.int (Int32.ofInt a1), .int (Int32.ofInt 1)]) (H1 := mz_mk g x) rfl ?_
    refine mz_iand rfl (fun v467 e_v467 hwv467 => ?_)
    have b_v467 : 0 ≤ v467 ∧ v467 ≤ 3 := by rw [e_v467]; exact mz_and_r (by omega) (by omega) ⟨by decide, by decide⟩
    have l_v467 := b_v467.1
    have u_v467 := b_v467.2
    have w_v467 : v467 ≤ a1 := by rw [e_v467]; exact (mz_and_r (hi := a1) (by omega) (Int.le_refl _) ⟨by decide, by decide⟩ (by omega)).2
    replace hE := zf_tr hE (zf_le e_v467.symm)
    have kd_v467 := mz_kd1 l_a1 u_a1
    refine mz_if_eq (tgt := 49) rfl rfl (mz_rg l_v467 u_v467) (fun c41_467 => ?_) (fun c41_467 => ?_)
    · skip
      replace hE := zf_ip hE c41_467
      refine mm_g 2 (pc1 := 51) (lo1 := [some (.ref 137), some (.int (Int32.ofInt a1)), some (.int (Int32.ofInt v7)), some (.int (Int32.ofInt 1))]) (st1 := [.int (Int32.ofInt 1), .int (Int32.ofInt 1)]) (H1 := mz_mk g x) rfl ?_
      refine mz_ic_ne (tgt := 68) rfl rfl ⟨by decide, by decide⟩ ⟨by decide, by decide⟩ (fun c51_467 => ?_) (fun c51_467 => ?_)
      · exfalso; omega
      · skip
        (try unfold zJ_X12_readLine_37 at hE)
        (try unfold zJ_X12_readLine_49 at hE)
        (try unfold zJ_X12_readLine_127 at hE)
        (try unfold zJ_X12_readLine_68 at hE)
        (try unfold zJ_X12_readLine_92 at hE)
        (try unfold zJ_X12_readLine_37 at hE)
        (try unfold zJ_X12_readLine_49 at hE)
        (try unfold zJ_X12_readLine_127 at hE)
        (try unfold zJ_X12_readLine_68 at hE)
        (try unfold zJ_X12_readLine_92 at hE)
        replace hE := zf_ip hE c51_467
        refine mm_g 1 (pc1 := 55) (lo1 := [some (.ref 137), some (.int (Int32.ofInt a1)), some (.int (Int32.ofInt v7)), some (.int (Int32.ofInt 1))]) (st1 := [.ref 137]) (H1 := mz_mk g x) rfl ?_
        refine mz_fgI (v := (g 137 22)) rfl fd_12_203 (by decide) (sc_137 _) (show g 137 22 = (g 137 22) from rfl) ?_
        replace hE := zf_tr hE (zf_le (show g 137 22 = (g 137 22) from rfl))
        refine mz_if_ne (tgt := 68) rfl rfl ⟨by omega, by omega⟩ (fun c58_467 => ?_) (fun c58_467 => ?_)
        · skip
          replace hE := zf_in hE c58_467
          refine mm_g 2 (pc1 := 70) (lo1 := [some (.ref 137), some (.int (Int32.ofInt a1)), some (.int (Int32.ofInt v7)), some (.int (Int32.ofInt 1))]) (st1 := [.int (Int32.ofInt 2), .int (Int32.ofInt 1)]) (H1 := mz_mk g x) rfl ?_
          refine mz_ic_ne (tgt := 92) rfl rfl ⟨by decide, by decide⟩ ⟨by decide, by decide⟩ (fun c70_467 => ?_) (fun c70_467 => ?_)
          · skip
            (try unfold zJ_X12_readLine_37 at hE)
            (try unfold zJ_X12_readLine_49 at hE)
            (try unfold zJ_X12_readLine_127 at hE)
            (try unfold zJ_X12_readLine_68 at hE)
            (try unfold zJ_X12_readLine_92 at hE)
            (try unfold zJ_X12_readLine_37 at hE)
            (try unfold zJ_X12_readLine_49 at hE)
            (try unfold zJ_X12_readLine_127 at hE)
            (try unfold zJ_X12_readLine_68 at hE)
            (try unfold zJ_X12_readLine_92 at hE)
            replace hE := zf_in hE c70_467
            refine mm_g 2 (pc1 := 94) (lo1 := [some (.ref 137), some (.int (Int32.ofInt a1)), some (.int (Int32.ofInt v7)), some (.int (Int32.ofInt 1))]) (st1 := [.int (Int32.ofInt (-1)), .int (Int32.ofInt v7)]) (H1 := mz_mk g x) rfl ?_
            refine mz_ic_eq (tgt := 105) rfl rfl (mz_rg l_v7 u_v7) ⟨by decide, by decide⟩ (fun c94_467 => ?_) (fun c94_467 => ?_)
            · skip
              replace hE := zf_ip hE c94_467
              refine mm_g 1 (pc1 := 106) (lo1 := [some (.ref 137), some (.int (Int32.ofInt a1)), some (.int (Int32.ofInt v7)), some (.int (Int32.ofInt 1))]) (st1 := [.ref 137]) (H1 := mz_mk g x) rfl ?_
              refine mz_ldcSW (j := 27) rfl rfl rfl ?_
              refine mz_cv rfl mt_12_217 (by decide) (sc_137 _) rfl (Nat.le_of_ble_eq_true rfl) (by omega) (f_X12_is (by omega) hx hI (by decide) (by omega) (fun v474 l_v474 u_v474 hp475 hc476 => ⟨_, rfl, ?_⟩))
              show mm_W d mmX12_readLine 112 [some (.ref 137), some (.int (Int32.ofInt a1)), some (.int (Int32.ofInt v7)), some (.int (Int32.ofInt 1))] [.int (Int32.ofInt v474)] (mz_mk g x) Q
              replace hE := zf_t1 hE hc476
              replace hp475 := mz_hd hp475
              refine mz_if_eq (tgt := 122) rfl rfl (mz_rg l_v474 u_v474) (fun c112_476 => ?_) (fun c112_476 => ?_)
              · skip
                replace hE := zf_ip hE c112_476
                refine mm_g 2 (pc1 := 124) (lo1 := [some (.ref 137), some (.int (Int32.ofInt a1)), some (.int (Int32.ofInt v7)), some (.int (Int32.ofInt 1))]) (st1 := [.int (Int32.ofInt 1), .ref 137]) (H1 := mz_mk g x) rfl ?_
                refine mz_cv rfl mt_12_224 (by decide) (sc_137 _) rfl (Nat.le_of_ble_eq_true rfl) (by omega) (f_X12_wrong (by omega) hx hI (by decide) (by decide) (fun g478 hIg478 hfg478 hp479 hp480 hc481 => ⟨_, rfl, ?_⟩))
                show mm_W d mmX12_readLine 127 [some (.ref 137), some (.int (Int32.ofInt a1)), some (.int (Int32.ofInt v7)), some (.int (Int32.ofInt 1))] [] (mz_mk g478 x) Q
                replace hE := zf_t1 hE hc481
                have bz_g478_22 := mz_rd hIg478 bd_137_22
                have ti481 : mz_TI g a1 → mz_TI g478 a1 := fun h => mz_TI_tok (hti h) (fun j hj => (hfg478 140 j nj_18)) (fun j => (hfg478 142 j nj_71)) (fun j => (hfg478 145 j nj_75)) (fun j => (hfg478 146 j nj_76)) (fun j => (hfg478 149 j nj_66)) (by intro hb; omega)
                have kk481 : mz_K1 g g478 := mz_K1_tr (mz_K1_rf _) ⟨(fun j hj => (hfg478 140 j nj_18)), (fun j hj => (hfg478 142 j nj_71)), (fun j hj => (hfg478 149 j nj_66))⟩
                replace hp480 := mz_hd hp480
                refine mm_g 1 (pc1 := 128) (lo1 := [some (.ref 137), some (.int (Int32.ofInt a1)), some (.int (Int32.ofInt v7)), some (.int (Int32.ofInt 1))]) (st1 := [.ref 137]) (H1 := mz_mk g478 x) rfl ?_
                refine mz_bip rfl bip_59 ?_
                have hq482 : g478 137 16 = (g 137 16) := (show g478 137 16 = (g 137 16) from ((hfg478 137 16 nj_12).trans rfl))
                have hq483 : g478 137 17 = (g 137 17) := (show g478 137 17 = (g 137 17) from ((hfg478 137 17 nj_13).trans rfl))
                have hq484 : g478 137 18 = (g 137 18) := (show g478 137 18 = (g 137 18) from ((hfg478 137 18 nj_14).trans rfl))
                have hq485 : g478 137 20 = (g 137 20) := (show g478 137 20 = (g 137 20) from ((hfg478 137 20 nj_15).trans rfl))
                have hq486 : g478 137 21 = (g 137 21) := (show g478 137 21 = (g 137 21) from ((hfg478 137 21 nj_16).trans rfl))
                refine mz_cv rfl mt_12_244 (by decide) (sc_137 _) rfl (Nat.le_of_ble_eq_true rfl) (by omega) (f_X12_mark (by omega) hx hIg478 (by decide) (by decide) (by have h90 := (show g478 137 16 = (g 137 16) from ((hfg478 137 16 nj_12).trans rfl)); have h91 := (show g478 137 17 = (g 137 17) from ((hfg478 137 17 nj_13).trans rfl)); have h92 := (show g478 137 18 = (g 137 18) from ((hfg478 137 18 nj_14).trans rfl)); have h93 := (show g478 137 20 = (g 137 20) from ((hfg478 137 20 nj_15).trans rfl)); have h94 := (show g478 137 21 = (g 137 21) from ((hfg478 137 21 nj_16).trans rfl)); omega) (fun g488 hIg488 hfg488 hp489 hp490 hp491 hp492 hc493 => ⟨_, rfl, ?_⟩))
                show mm_W d mmX12_readLine 133 [some (.ref 137), some (.int (Int32.ofInt a1)), some (.int (Int32.ofInt v7)), some (.int (Int32.ofInt 1))] [] (mz_mk g488 x) Q
                replace hE := zf_t1 hE hc493
                have bz_g488_16 := mz_rd hIg488 bd_137_16
                have hk_g488_17 : g488 137 17 = (g 137 17) := (show g488 137 17 = (g 137 17) from ((hfg488 137 17 nj_59).trans ((hfg478 137 17 nj_13).trans rfl)))
                have bz_g488_18 := mz_rd hIg488 bd_137_18
                have bz_g488_20 := mz_rd hIg488 bd_137_20
                have bz_g488_21 := mz_rd hIg488 bd_137_21
                have bz_g488_22 := mz_rd hIg488 bd_137_22
                have ti493 : mz_TI g a1 → mz_TI g488 a1 := fun h => mz_TI_tok (ti481 h) (fun j hj => (hfg488 140 j nj_60)) (fun j => (hfg488 142 j nj_69)) (fun j => (hfg488 145 j nj_72)) (fun j => (hfg488 146 j nj_73)) (fun j => (hfg488 149 j nj_62)) (by intro hb; omega)
                have kk493 : mz_K1 g g488 := mz_K1_tr kk481 ⟨(fun j hj => (hfg488 140 j nj_60)), (fun j hj => (hfg488 142 j nj_69)), (fun j hj => (hfg488 149 j nj_62))⟩
                have mo_g488 : g 137 20 ≤ g488 137 20 := by omega
                replace p1 := mz_hd p1
                refine mm_g 2 (pc1 := 135) (lo1 := [some (.ref 137), some (.int (Int32.ofInt a1)), some (.int (Int32.ofInt v7)), some (.int (Int32.ofInt 1))]) (st1 := [.int (Int32.ofInt 1), .int (Int32.ofInt a1)]) (H1 := mz_mk g488 x) rfl ?_
                refine mz_ior rfl (fun v494 e_v494 hwv494 => ?_)
                have b_v494 : 0 ≤ v494 ∧ v494 ≤ 3 := by rw [e_v494]; exact mz_or_lt (n := 2) (by decide) (by omega) (by omega) (by omega) (by omega)
                have l_v494 := b_v494.1
                have u_v494 := b_v494.2
                replace hE := zf_tr hE (zf_le e_v494.symm)
                exact mm_rt rfl rfl (hQ _ _ hIg488 (fun k j hk => ((hfg488 k j (fun h => hk (Or.elim h (fun h => (Or.inr (Or.inr (Or.inl h)))) (fun h => (Or.elim h (fun h => (Or.inr (Or.inr (Or.inr (Or.inl h))))) (fun h => (Or.elim h (fun h => (Or.inr (Or.inr (Or.inr (Or.inr (Or.inl h)))))) (fun h => (Or.elim h (fun h => (Or.inr (Or.inr (Or.inr (Or.inr (Or.inr (Or.inl h))))))) (fun h => (Or.elim h (fun h => (Or.inr (Or.inr (Or.inr (Or.inr (Or.inr (Or.inr (Or.inl h)))))))) (fun h => (Or.elim h (fun h => (Or.inl h)) (fun h => (Or.inr (Or.inl h)))))))))))))))).trans (hfg478 k j (fun h => hk (Or.elim h (fun h => (Or.inl h)) (fun h => (Or.inr (Or.inl h)))))))) (by omega) (by omega) (by have h91 := (show g488 137 17 = (g 137 17) from ((hfg488 137 17 nj_59).trans ((hfg478 137 17 nj_13).trans rfl))); omega) (by have h91 := (show g488 137 17 = (g 137 17) from ((hfg488 137 17 nj_59).trans ((hfg478 137 17 nj_13).trans rfl))); omega) (by have h91 := (show g488 137 17 = (g 137 17) from ((hfg488 137 17 nj_59).trans ((hfg478 137 17 nj_13).trans rfl))); omega) (by have h91 := (show g488 137 17 = (g 137 17) from ((hfg488 137 17 nj_59).trans ((hfg478 137 17 nj_13).trans rfl))); omega) (by have h := p2; first | exact mz_TI_d (ti493 h) (by omega) | exact mz_TI_bad (ti493 h) (by omega)) kk493 hE)
              · skip
                replace hE := zf_in hE c112_476
                refine mm_g 1 (pc1 := 116) (lo1 := [some (.ref 137), some (.int (Int32.ofInt a1)), some (.int (Int32.ofInt v7)), some (.int (Int32.ofInt 1))]) (st1 := [.ref 137]) (H1 := mz_mk g x) rfl ?_
                refine mz_cv rfl mt_12_291 (by decide) (sc_137 _) rfl (Nat.le_of_ble_eq_true rfl) (by omega) (f_X12_sayWord (by omega) hx hI (by omega) (fun g505 hIg505 hfg505 hp506 hp507 hp508 hp509 hp510 hp511 hc512 => ⟨_, rfl, ?_⟩))
                show mm_W d mmX12_readLine 119 [some (.ref 137), some (.int (Int32.ofInt a1)), some (.int (Int32.ofInt v7)), some (.int (Int32.ofInt 1))] [] (mz_mk g505 x) Q
                replace hE := zf_t1 hE hc512
                have bz_g505_16 := mz_rd hIg505 bd_137_16
                have hk_g505_17 : g505 137 17 = (g 137 17) := (show g505 137 17 = (g 137 17) from ((hfg505 137 17 nj_77).trans rfl))
                have bz_g505_18 := mz_rd hIg505 bd_137_18
                have bz_g505_20 := mz_rd hIg505 bd_137_20
                have bz_g505_21 := mz_rd hIg505 bd_137_21
                have bz_g505_22 := mz_rd hIg505 bd_137_22
                have bt_g505_4 := mz_rd hIg505 bt_140_4
                have hk_g505_5 : g505 140 5 = (g 140 5) := (show g505 140 5 = (g 140 5) from ((hfg505 140 5 nj_78).trans rfl))
                have hk_g505_6 : g505 140 6 = (g 140 6) := (show g505 140 6 = (g 140 6) from ((hfg505 140 6 nj_79).trans rfl))
                have hk_g505_7 : g505 140 7 = (g 140 7) := (show g505 140 7 = (g 140 7) from ((hfg505 140 7 nj_80).trans rfl))
                have ti512 : mz_TI g a1 → mz_TI g505 a1 := fun h => mz_TI_word (hti h) hp510 (by omega) (hfg505 140 5 nj_78) (hfg505 140 7 nj_80) (fun j => (hfg505 145 j nj_81)) (fun j => (hfg505 146 j nj_82)) (fun j => (hfg505 149 j nj_83)) (by intro hb; omega)
                have kk512 : mz_K1 g g505 := mz_K1_tr (mz_K1_rf _) ⟨(fun j hj => (hfg505 140 j (fun h => (Or.elim h (fun h => (absurd (show 140 = 137 from (h).1) (by decide))) (fun h => (Or.elim h (fun h => (absurd (show 140 = 137 from (h).1) (by decide))) (fun h => (Or.elim h (fun h => (absurd (show 140 = 137 from (h).1) (by decide))) (fun h => (Or.elim h (fun h => (absurd (show 140 = 137 from (h).1) (by decide))) (fun h => (Or.elim h (fun h => (absurd (show 140 = 137 from (h).1) (by decide))) (fun h => (Or.elim h (fun h => (absurd (show 140 = 137 from (h).1) (by decide))) (fun h => (Or.elim h (fun h => (absurd (show 140 = 137 from (h).1) (by decide))) (fun h => (Or.elim h (fun h => (absurd (show 140 = 141 from h) (by decide))) (fun h => (Or.elim h (fun h => (absurd (show 140 = 142 from h) (by decide))) (fun h => (Or.elim h (fun h => (absurd (show 140 = 143 from h) (by decide))) (fun h => (by have h9 : (140 = 140 ∧ j = 4) := h; omega)))))))))))))))))))))))), hp509, (fun j hj => (hfg505 149 j nj_83))⟩
                have mo_g505 : g 137 20 ≤ g505 137 20 := by omega
                replace p1 := mz_hd p1
                refine mz_gt (tgt := 127) rfl rfl ?_
                refine mm_g 1 (pc1 := 128) (lo1 := [some (.ref 137), some (.int (Int32.ofInt a1)), some (.int (Int32.ofInt v7)), some (.int (Int32.ofInt 1))]) (st1 := [.ref 137]) (H1 := mz_mk g505 x) rfl ?_
                refine mz_bip rfl bip_59 ?_
                have hq514 : g505 137 17 = (g 137 17) := (show g505 137 17 = (g 137 17) from ((hfg505 137 17 nj_77).trans rfl))
                refine mz_cv rfl mt_12_244 (by decide) (sc_137 _) rfl (Nat.le_of_ble_eq_true rfl) (by omega) (f_X12_mark (by omega) hx hIg505 (by decide) (by decide) (by have h91 := (show g505 137 17 = (g 137 17) from ((hfg505 137 17 nj_77).trans rfl)); omega) (fun g519 hIg519 hfg519 hp520 hp521 hp522 hp523 hc524 => ⟨_, rfl, ?_⟩))
                show mm_W d mmX12_readLine 133 [some (.ref 137), some (.int (Int32.ofInt a1)), some (.int (Int32.ofInt v7)), some (.int (Int32.ofInt 1))] [] (mz_mk g519 x) Q
                replace hE := zf_t1 hE hc524
                have bz_g519_16 := mz_rd hIg519 bd_137_16
                have hk_g519_17 : g519 137 17 = (g 137 17) := (show g519 137 17 = (g 137 17) from ((hfg519 137 17 nj_59).trans ((hfg505 137 17 nj_77).trans rfl)))
                have bz_g519_18 := mz_rd hIg519 bd_137_18
                have bz_g519_20 := mz_rd hIg519 bd_137_20
                have bz_g519_21 := mz_rd hIg519 bd_137_21
                have bz_g519_22 := mz_rd hIg519 bd_137_22
                have ti524 : mz_TI g a1 → mz_TI g519 a1 := fun h => mz_TI_tok (ti512 h) (fun j hj => (hfg519 140 j nj_60)) (fun j => (hfg519 142 j nj_69)) (fun j => (hfg519 145 j nj_72)) (fun j => (hfg519 146 j nj_73)) (fun j => (hfg519 149 j nj_62)) (by intro hb; omega)
                have kk524 : mz_K1 g g519 := mz_K1_tr kk512 ⟨(fun j hj => (hfg519 140 j nj_60)), (fun j hj => (hfg519 142 j nj_69)), (fun j hj => (hfg519 149 j nj_62))⟩
                have mo_g519 : g 137 20 ≤ g519 137 20 := by omega
                replace hp506 := mz_hd hp506
                refine mm_g 2 (pc1 := 135) (lo1 := [some (.ref 137), some (.int (Int32.ofInt a1)), some (.int (Int32.ofInt v7)), some (.int (Int32.ofInt 1))]) (st1 := [.int (Int32.ofInt 1), .int (Int32.ofInt a1)]) (H1 := mz_mk g519 x) rfl ?_
                refine mz_ior rfl (fun v525 e_v525 hwv525 => ?_)
                have b_v525 : 0 ≤ v525 ∧ v525 ≤ 3 := by rw [e_v525]; exact mz_or_lt (n := 2) (by decide) (by omega) (by omega) (by omega) (by omega)
                have l_v525 := b_v525.1
                have u_v525 := b_v525.2
                replace hE := zf_tr hE (zf_le e_v525.symm)
                exact mm_rt rfl rfl (hQ _ _ hIg519 (fun k j hk => ((hfg519 k j (fun h => hk (Or.elim h (fun h => (Or.inr (Or.inr (Or.inl h)))) (fun h => (Or.elim h (fun h => (Or.inr (Or.inr (Or.inr (Or.inl h))))) (fun h => (Or.elim h (fun h => (Or.inr (Or.inr (Or.inr (Or.inr (Or.inl h)))))) (fun h => (Or.elim h (fun h => (Or.inr (Or.inr (Or.inr (Or.inr (Or.inr (Or.inl h))))))) (fun h => (Or.elim h (fun h => (Or.inr (Or.inr (Or.inr (Or.inr (Or.inr (Or.inr (Or.inl h)))))))) (fun h => (Or.elim h (fun h => (Or.inl h)) (fun h => (Or.inr (Or.inl h)))))))))))))))).trans (hfg505 k j (fun h => hk (Or.elim h (fun h => (Or.inr (Or.inr (Or.inl h)))) (fun h => (Or.elim h (fun h => (Or.inr (Or.inr (Or.inr (Or.inl h))))) (fun h => (Or.elim h (fun h => (Or.inr (Or.inr (Or.inr (Or.inr (Or.inl h)))))) (fun h => (Or.elim h (fun h => (Or.inr (Or.inr (Or.inr (Or.inr (Or.inr (Or.inl h))))))) (fun h => (Or.elim h (fun h => (Or.inr (Or.inr (Or.inr (Or.inr (Or.inr (Or.inr (Or.inl h)))))))) (fun h => (Or.elim h (fun h => (Or.inl h)) (fun h => (Or.elim h (fun h => (Or.inr (Or.inl h))) (fun h => (Or.elim h (fun h => (Or.inr (Or.inr (Or.inr (Or.inr (Or.inr (Or.inr (Or.inr (Or.inl h))))))))) (fun h => (Or.elim h (fun h => (Or.inr (Or.inr (Or.inr (Or.inr (Or.inr (Or.inr (Or.inr (Or.inr (Or.inl h)))))))))) (fun h => (Or.elim h (fun h => (Or.inr (Or.inr (Or.inr (Or.inr (Or.inr (Or.inr (Or.inr (Or.inr (Or.inr (Or.inl h))))))))))) (fun h => (Or.inr (Or.inr (Or.inr (Or.inr (Or.inr (Or.inr (Or.inr (Or.inr (Or.inr (Or.inr (Or.inl h))))))))))))))))))))))))))))))))))) (by omega) (by omega) (by have h91 := (show g519 137 17 = (g 137 17) from ((hfg519 137 17 nj_59).trans ((hfg505 137 17 nj_77).trans rfl))); omega) (by have h91 := (show g519 137 17 = (g 137 17) from ((hfg519 137 17 nj_59).trans ((hfg505 137 17 nj_77).trans rfl))); omega) (by have h91 := (show g519 137 17 = (g 137 17) from ((hfg519 137 17 nj_59).trans ((hfg505 137 17 nj_77).trans rfl))); omega) (by have h91 := (show g519 137 17 = (g 137 17) from ((hfg519 137 17 nj_59).trans ((hfg505 137 17 nj_77).trans rfl))); omega) (by have h := p2; first | exact mz_TI_d (ti524 h) (by omega) | exact mz_TI_bad (ti524 h) (by omega)) kk524 hE)
            · skip
              replace hE := zf_in hE c94_467
              refine mm_g 2 (pc1 := 99) (lo1 := [some (.ref 137), some (.int (Int32.ofInt a1)), some (.int (Int32.ofInt v7)), some (.int (Int32.ofInt 1))]) (st1 := [.int (Int32.ofInt v7), .ref 137]) (H1 := mz_mk g x) rfl ?_
              refine mz_cv rfl mt_12_286 (by decide) (sc_137 _) rfl (Nat.le_of_ble_eq_true rfl) (by omega) (f_X12_sayTrunk (by omega) hx hI (by omega) (by omega) (by omega) (fun g536 hIg536 hfg536 hp537 hp538 hp539 hp540 hc541 => ⟨_, rfl, ?_⟩))
              show mm_W d mmX12_readLine 102 [some (.ref 137), some (.int (Int32.ofInt a1)), some (.int (Int32.ofInt v7)), some (.int (Int32.ofInt 1))] [] (mz_mk g536 x) Q
              replace hE := zf_t1 hE hc541
              have bz_g536_16 := mz_rd hIg536 bd_137_16
              have hk_g536_17 : g536 137 17 = (g 137 17) := (show g536 137 17 = (g 137 17) from ((hfg536 137 17 nj_84).trans rfl))
              have bz_g536_18 := mz_rd hIg536 bd_137_18
              have bz_g536_20 := mz_rd hIg536 bd_137_20
              have bz_g536_21 := mz_rd hIg536 bd_137_21
              have bz_g536_22 := mz_rd hIg536 bd_137_22
              have hk_g536_4 : g536 140 4 = (g 140 4) := (show g536 140 4 = (g 140 4) from ((hfg536 140 4 nj_85).trans rfl))
              have bt_g536_5 := mz_rd hIg536 bt_140_5
              have hk_g536_6 : g536 140 6 = (g 140 6) := (show g536 140 6 = (g 140 6) from ((hfg536 140 6 nj_86).trans rfl))
              have hk_g536_7 : g536 140 7 = (g 140 7) := (show g536 140 7 = (g 140 7) from ((hfg536 140 7 nj_87).trans rfl))
              have ti541 : mz_TI g a1 → mz_TI g536 a1 := fun h => mz_TI_trunk (hti h) hp540 (hfg536 140 4 nj_85) (hfg536 140 7 nj_87) (fun j => (hfg536 142 j nj_88)) (fun j => (hfg536 149 j nj_89)) (by intro hb; omega)
              have kk541 : mz_K1 g g536 := mz_K1_tr (mz_K1_rf _) ⟨(fun j hj => (hfg536 140 j (fun h => (Or.elim h (fun h => (absurd (show 140 = 137 from (h).1) (by decide))) (fun h => (Or.elim h (fun h => (absurd (show 140 = 137 from (h).1) (by decide))) (fun h => (Or.elim h (fun h => (absurd (show 140 = 137 from (h).1) (by decide))) (fun h => (Or.elim h (fun h => (absurd (show 140 = 137 from (h).1) (by decide))) (fun h => (Or.elim h (fun h => (absurd (show 140 = 137 from (h).1) (by decide))) (fun h => (Or.elim h (fun h => (absurd (show 140 = 137 from (h).1) (by decide))) (fun h => (Or.elim h (fun h => (absurd (show 140 = 137 from (h).1) (by decide))) (fun h => (Or.elim h (fun h => (absurd (show 140 = 144 from h) (by decide))) (fun h => (Or.elim h (fun h => (absurd (show 140 = 145 from h) (by decide))) (fun h => (Or.elim h (fun h => (absurd (show 140 = 146 from h) (by decide))) (fun h => (Or.elim h (fun h => (absurd (show 140 = 147 from h) (by decide))) (fun h => (by have h9 : (140 = 140 ∧ j = 5) := h; omega)))))))))))))))))))))))))), (fun j hj => (hfg536 142 j nj_88)), (fun j hj => (hfg536 149 j nj_89))⟩
              have mo_g536 : g 137 20 ≤ g536 137 20 := by omega
              replace p1 := mz_hd p1
              refine mz_gt (tgt := 127) rfl rfl ?_
              refine mm_g 1 (pc1 := 128) (lo1 := [some (.ref 137), some (.int (Int32.ofInt a1)), some (.int (Int32.ofInt v7)), some (.int (Int32.ofInt 1))]) (st1 := [.ref 137]) (H1 := mz_mk g536 x) rfl ?_
              refine mz_bip rfl bip_59 ?_
              have hq543 : g536 137 17 = (g 137 17) := (show g536 137 17 = (g 137 17) from ((hfg536 137 17 nj_84).trans rfl))
              refine mz_cv rfl mt_12_244 (by decide) (sc_137 _) rfl (Nat.le_of_ble_eq_true rfl) (by omega) (f_X12_mark (by omega) hx hIg536 (by decide) (by decide) (by have h91 := (show g536 137 17 = (g 137 17) from ((hfg536 137 17 nj_84).trans rfl)); omega) (fun g548 hIg548 hfg548 hp549 hp550 hp551 hp552 hc553 => ⟨_, rfl, ?_⟩))
              show mm_W d mmX12_readLine 133 [some (.ref 137), some (.int (Int32.ofInt a1)), some (.int (Int32.ofInt v7)), some (.int (Int32.ofInt 1))] [] (mz_mk g548 x) Q
              replace hE := zf_t1 hE hc553
              have bz_g548_16 := mz_rd hIg548 bd_137_16
              have hk_g548_17 : g548 137 17 = (g 137 17) := (show g548 137 17 = (g 137 17) from ((hfg548 137 17 nj_59).trans ((hfg536 137 17 nj_84).trans rfl)))
              have bz_g548_18 := mz_rd hIg548 bd_137_18
              have bz_g548_20 := mz_rd hIg548 bd_137_20
              have bz_g548_21 := mz_rd hIg548 bd_137_21
              have bz_g548_22 := mz_rd hIg548 bd_137_22
              have ti553 : mz_TI g a1 → mz_TI g548 a1 := fun h => mz_TI_tok (ti541 h) (fun j hj => (hfg548 140 j nj_60)) (fun j => (hfg548 142 j nj_69)) (fun j => (hfg548 145 j nj_72)) (fun j => (hfg548 146 j nj_73)) (fun j => (hfg548 149 j nj_62)) (by intro hb; omega)
              have kk553 : mz_K1 g g548 := mz_K1_tr kk541 ⟨(fun j hj => (hfg548 140 j nj_60)), (fun j hj => (hfg548 142 j nj_69)), (fun j hj => (hfg548 149 j nj_62))⟩
              have mo_g548 : g 137 20 ≤ g548 137 20 := by omega
              replace hp537 := mz_hd hp537
              refine mm_g 2 (pc1 := 135) (lo1 := [some (.ref 137), some (.int (Int32.ofInt a1)), some (.int (Int32.ofInt v7)), some (.int (Int32.ofInt 1))]) (st1 := [.int (Int32.ofInt 1), .int (Int32.ofInt a1)]) (H1 := mz_mk g548 x) rfl ?_
              refine mz_ior rfl (fun v554 e_v554 hwv554 => ?_)
              have b_v554 : 0 ≤ v554 ∧ v554 ≤ 3 := by rw [e_v554]; exact mz_or_lt (n := 2) (by decide) (by omega) (by omega) (by omega) (by omega)
              have l_v554 := b_v554.1
              have u_v554 := b_v554.2
              replace hE := zf_tr hE (zf_le e_v554.symm)
              exact mm_rt rfl rfl (hQ _ _ hIg548 (fun k j hk => ((hfg548 k j (fun h => hk (Or.elim h (fun h => (Or.inr (Or.inr (Or.inl h)))) (fun h => (Or.elim h (fun h => (Or.inr (Or.inr (Or.inr (Or.inl h))))) (fun h => (Or.elim h (fun h => (Or.inr (Or.inr (Or.inr (Or.inr (Or.inl h)))))) (fun h => (Or.elim h (fun h => (Or.inr (Or.inr (Or.inr (Or.inr (Or.inr (Or.inl h))))))) (fun h => (Or.elim h (fun h => (Or.inr (Or.inr (Or.inr (Or.inr (Or.inr (Or.inr (Or.inl h)))))))) (fun h => (Or.elim h (fun h => (Or.inl h)) (fun h => (Or.inr (Or.inl h)))))))))))))))).trans (hfg536 k j (fun h => hk (Or.elim h (fun h => (Or.inr (Or.inr (Or.inl h)))) (fun h => (Or.elim h (fun h => (Or.inr (Or.inr (Or.inr (Or.inl h))))) (fun h => (Or.elim h (fun h => (Or.inr (Or.inr (Or.inr (Or.inr (Or.inl h)))))) (fun h => (Or.elim h (fun h => (Or.inr (Or.inr (Or.inr (Or.inr (Or.inr (Or.inl h))))))) (fun h => (Or.elim h (fun h => (Or.inr (Or.inr (Or.inr (Or.inr (Or.inr (Or.inr (Or.inl h)))))))) (fun h => (Or.elim h (fun h => (Or.inl h)) (fun h => (Or.elim h (fun h => (Or.inr (Or.inl h))) (fun h => (Or.elim h (fun h => (Or.inr (Or.inr (Or.inr (Or.inr (Or.inr (Or.inr (Or.inr (Or.inr (Or.inr (Or.inr (Or.inr (Or.inl h))))))))))))) (fun h => (Or.elim h (fun h => (Or.inr (Or.inr (Or.inr (Or.inr (Or.inr (Or.inr (Or.inr (Or.inr (Or.inr (Or.inr (Or.inr (Or.inr (Or.inl h)))))))))))))) (fun h => (Or.elim h (fun h => (Or.inr (Or.inr (Or.inr (Or.inr (Or.inr (Or.inr (Or.inr (Or.inr (Or.inr (Or.inr (Or.inr (Or.inr (Or.inr (Or.inl h))))))))))))))) (fun h => (Or.elim h (fun h => (Or.inr (Or.inr (Or.inr (Or.inr (Or.inr (Or.inr (Or.inr (Or.inr (Or.inr (Or.inr (Or.inr (Or.inr (Or.inr (Or.inr (Or.inl h)))))))))))))))) (fun h => (Or.inr (Or.inr (Or.inr (Or.inr (Or.inr (Or.inr (Or.inr (Or.inr (Or.inr (Or.inr (Or.inr (Or.inr (Or.inr (Or.inr (Or.inr (Or.inl h)))))))))))))))))))))))))))))))))))))))))) (by omega) (by omega) (by have h91 := (show g548 137 17 = (g 137 17) from ((hfg548 137 17 nj_59).trans ((hfg536 137 17 nj_84).trans rfl))); omega) (by have h91 := (show g548 137 17 = (g 137 17) from ((hfg548 137 17 nj_59).trans ((hfg536 137 17 nj_84).trans rfl))); omega) (by have h91 := (show g548 137 17 = (g 137 17) from ((hfg548 137 17 nj_59).trans ((hfg536 137 17 nj_84).trans rfl))); omega) (by have h91 := (show g548 137 17 = (g 137 17) from ((hfg548 137 17 nj_59).trans ((hfg536 137 17 nj_84).trans rfl))); omega) (by have h := p2; first | exact mz_TI_d (ti553 h) (by omega) | exact mz_TI_bad (ti553 h) (by omega)) kk553 hE)
          · exfalso; omega
        · skip
          replace hE := zf_ip hE c58_467
          refine mm_g 1 (pc1 := 62) (lo1 := [some (.ref 137), some (.int (Int32.ofInt a1)), some (.int (Int32.ofInt v7)), some (.int (Int32.ofInt 1))]) (st1 := [.ref 137]) (H1 := mz_mk g x) rfl ?_
          refine mz_cv rfl mt_12_283 (by decide) (sc_137 _) rfl (Nat.le_of_ble_eq_true rfl) (by omega) (f_X12_sayHeat (by omega) hx hI (by omega) (fun g561 hIg561 hfg561 hp562 hp563 hp564 hc565 => ⟨_, rfl, ?_⟩))
          show mm_W d mmX12_readLine 65 [some (.ref 137), some (.int (Int32.ofInt a1)), some (.int (Int32.ofInt v7)), some (.int (Int32.ofInt 1))] [] (mz_mk g561 x) Q
          replace hE := zf_t1 hE hc565
          have bz_g561_16 := mz_rd hIg561 bd_137_16
          have hk_g561_17 : g561 137 17 = (g 137 17) := (show g561 137 17 = (g 137 17) from ((hfg561 137 17 nj_95).trans rfl))
          have bz_g561_18 := mz_rd hIg561 bd_137_18
          have bz_g561_20 := mz_rd hIg561 bd_137_20
          have bz_g561_21 := mz_rd hIg561 bd_137_21
          have bz_g561_22 := mz_rd hIg561 bd_137_22
          have ti565 : mz_TI g a1 → mz_TI g561 a1 := fun h => mz_TI_tok (hti h) (fun j hj => (hfg561 140 j (fun h => (Or.elim h (fun h => (absurd (show 140 = 137 from (h).1) (by decide))) (fun h => (Or.elim h (fun h => (absurd (show 140 = 137 from (h).1) (by decide))) (fun h => (Or.elim h (fun h => (absurd (show 140 = 137 from (h).1) (by decide))) (fun h => (Or.elim h (fun h => (absurd (show 140 = 137 from (h).1) (by decide))) (fun h => (Or.elim h (fun h => (absurd (show 140 = 137 from (h).1) (by decide))) (fun h => (Or.elim h (fun h => (absurd (show 140 = 137 from (h).1) (by decide))) (fun h => (Or.elim h (fun h => (absurd (show 140 = 137 from (h).1) (by decide))) (fun h => (Or.elim h (fun h => (by have h9 : (140 = 140 ∧ j = 6) := h; omega)) (fun h => (absurd (show 140 = 148 from h) (by decide))))))))))))))))))))) (fun j => (hfg561 142 j nj_96)) (fun j => (hfg561 145 j nj_97)) (fun j => (hfg561 146 j nj_98)) (fun j => (hfg561 149 j nj_99)) (by intro hb; omega)
          have kk565 : mz_K1 g g561 := mz_K1_tr (mz_K1_rf _) ⟨(fun j hj => (hfg561 140 j (fun h => (Or.elim h (fun h => (absurd (show 140 = 137 from (h).1) (by decide))) (fun h => (Or.elim h (fun h => (absurd (show 140 = 137 from (h).1) (by decide))) (fun h => (Or.elim h (fun h => (absurd (show 140 = 137 from (h).1) (by decide))) (fun h => (Or.elim h (fun h => (absurd (show 140 = 137 from (h).1) (by decide))) (fun h => (Or.elim h (fun h => (absurd (show 140 = 137 from (h).1) (by decide))) (fun h => (Or.elim h (fun h => (absurd (show 140 = 137 from (h).1) (by decide))) (fun h => (Or.elim h (fun h => (absurd (show 140 = 137 from (h).1) (by decide))) (fun h => (Or.elim h (fun h => (by have h9 : (140 = 140 ∧ j = 6) := h; omega)) (fun h => (absurd (show 140 = 148 from h) (by decide))))))))))))))))))))), (fun j hj => (hfg561 142 j nj_96)), (fun j hj => (hfg561 149 j nj_99))⟩
          have mo_g561 : g 137 20 ≤ g561 137 20 := by omega
          replace p1 := mz_hd p1
          refine mz_gt (tgt := 127) rfl rfl ?_
          refine mm_g 1 (pc1 := 128) (lo1 := [some (.ref 137), some (.int (Int32.ofInt a1)), some (.int (Int32.ofInt v7)), some (.int (Int32.ofInt 1))]) (st1 := [.ref 137]) (H1 := mz_mk g561 x) rfl ?_
          refine mz_bip rfl bip_59 ?_
          have hq567 : g561 137 17 = (g 137 17) := (show g561 137 17 = (g 137 17) from ((hfg561 137 17 nj_95).trans rfl))
          refine mz_cv rfl mt_12_244 (by decide) (sc_137 _) rfl (Nat.le_of_ble_eq_true rfl) (by omega) (f_X12_mark (by omega) hx hIg561 (by decide) (by decide) (by have h91 := (show g561 137 17 = (g 137 17) from ((hfg561 137 17 nj_95).trans rfl)); omega) (fun g572 hIg572 hfg572 hp573 hp574 hp575 hp576 hc577 => ⟨_, rfl, ?_⟩))
          show mm_W d mmX12_readLine 133 [some (.ref 137), some (.int (Int32.ofInt a1)), some (.int (Int32.ofInt v7)), some (.int (Int32.ofInt 1))] [] (mz_mk g572 x) Q
          replace hE := zf_t1 hE hc577
          have bz_g572_16 := mz_rd hIg572 bd_137_16
          have hk_g572_17 : g572 137 17 = (g 137 17) := (show g572 137 17 = (g 137 17) from ((hfg572 137 17 nj_59).trans ((hfg561 137 17 nj_95).trans rfl)))
          have bz_g572_18 := mz_rd hIg572 bd_137_18
          have bz_g572_20 := mz_rd hIg572 bd_137_20
          have bz_g572_21 := mz_rd hIg572 bd_137_21
          have bz_g572_22 := mz_rd hIg572 bd_137_22
          have ti577 : mz_TI g a1 → mz_TI g572 a1 := fun h => mz_TI_tok (ti565 h) (fun j hj => (hfg572 140 j nj_60)) (fun j => (hfg572 142 j nj_69)) (fun j => (hfg572 145 j nj_72)) (fun j => (hfg572 146 j nj_73)) (fun j => (hfg572 149 j nj_62)) (by intro hb; omega)
          have kk577 : mz_K1 g g572 := mz_K1_tr kk565 ⟨(fun j hj => (hfg572 140 j nj_60)), (fun j hj => (hfg572 142 j nj_69)), (fun j hj => (hfg572 149 j nj_62))⟩
          have mo_g572 : g 137 20 ≤ g572 137 20 := by omega
          replace hp562 := mz_hd hp562
          refine mm_g 2 (pc1 := 135) (lo1 := [some (.ref 137), some (.int (Int32.ofInt a1)), some (.int (Int32.ofInt v7)), some (.int (Int32.ofInt 1))]) (st1 := [.int (Int32.ofInt 1), .int (Int32.ofInt a1)]) (H1 := mz_mk g572 x) rfl ?_
          refine mz_ior rfl (fun v578 e_v578 hwv578 => ?_)
          have b_v578 : 0 ≤ v578 ∧ v578 ≤ 3 := by rw [e_v578]; exact mz_or_lt (n := 2) (by decide) (by omega) (by omega) (by omega) (by omega)
          have l_v578 := b_v578.1
          have u_v578 := b_v578.2
          replace hE := zf_tr hE (zf_le e_v578.symm)
          exact mm_rt rfl rfl (hQ _ _ hIg572 (fun k j hk => ((hfg572 k j (fun h => hk (Or.elim h (fun h => (Or.inr (Or.inr (Or.inl h)))) (fun h => (Or.elim h (fun h => (Or.inr (Or.inr (Or.inr (Or.inl h))))) (fun h => (Or.elim h (fun h => (Or.inr (Or.inr (Or.inr (Or.inr (Or.inl h)))))) (fun h => (Or.elim h (fun h => (Or.inr (Or.inr (Or.inr (Or.inr (Or.inr (Or.inl h))))))) (fun h => (Or.elim h (fun h => (Or.inr (Or.inr (Or.inr (Or.inr (Or.inr (Or.inr (Or.inl h)))))))) (fun h => (Or.elim h (fun h => (Or.inl h)) (fun h => (Or.inr (Or.inl h)))))))))))))))).trans (hfg561 k j (fun h => hk (Or.elim h (fun h => (Or.inr (Or.inr (Or.inl h)))) (fun h => (Or.elim h (fun h => (Or.inr (Or.inr (Or.inr (Or.inl h))))) (fun h => (Or.elim h (fun h => (Or.inr (Or.inr (Or.inr (Or.inr (Or.inl h)))))) (fun h => (Or.elim h (fun h => (Or.inr (Or.inr (Or.inr (Or.inr (Or.inr (Or.inl h))))))) (fun h => (Or.elim h (fun h => (Or.inr (Or.inr (Or.inr (Or.inr (Or.inr (Or.inr (Or.inl h)))))))) (fun h => (Or.elim h (fun h => (Or.inl h)) (fun h => (Or.elim h (fun h => (Or.inr (Or.inl h))) (fun h => (Or.elim h (fun h => (Or.inr (Or.inr (Or.inr (Or.inr (Or.inr (Or.inr (Or.inr (Or.inr (Or.inr (Or.inr (Or.inr (Or.inr (Or.inr (Or.inr (Or.inr (Or.inr (Or.inr (Or.inr (Or.inl h)))))))))))))))))))) (fun h => (Or.inr (Or.inr (Or.inr (Or.inr (Or.inr (Or.inr (Or.inr (Or.inr (Or.inr (Or.inr (Or.inr (Or.inr (Or.inr (Or.inr (Or.inr (Or.inr (Or.inr (Or.inr (Or.inr h))))))))))))))))))))))))))))))))))))))) (by omega) (by omega) (by have h91 := (show g572 137 17 = (g 137 17) from ((hfg572 137 17 nj_59).trans ((hfg561 137 17 nj_95).trans rfl))); omega) (by have h91 := (show g572 137 17 = (g 137 17) from ((hfg572 137 17 nj_59).trans ((hfg561 137 17 nj_95).trans rfl))); omega) (by have h91 := (show g572 137 17 = (g 137 17) from ((hfg572 137 17 nj_59).trans ((hfg561 137 17 nj_95).trans rfl))); omega) (by have h91 := (show g572 137 17 = (g 137 17) from ((hfg572 137 17 nj_59).trans ((hfg561 137 17 nj_95).trans rfl))); omega) (by have h := p2; first | exact mz_TI_d (ti577 h) (by omega) | exact mz_TI_bad (ti577 h) (by omega)) kk577 hE)
    · skip
      replace hE := zf_in hE c41_467
      refine mm_g 2 (pc1 := 46) (lo1 := [some (.ref 137), some (.int (Int32.ofInt a1)), some (.int (Int32.ofInt v7)), some (.int (Int32.ofInt 1))]) (st1 := [.int (Int32.ofInt 5), .ref 137]) (H1 := mz_mk g x) rfl ?_
      refine mz_cv rfl mt_12_224 (by decide) (sc_137 _) rfl (Nat.le_of_ble_eq_true rfl) (by omega) (f_X12_wrong (by omega) hx hI (by decide) (by decide) (fun g580 hIg580 hfg580 hp581 hp582 hc583 => ⟨_, rfl, ?_⟩))
      show mm_W d mmX12_readLine 49 [some (.ref 137), some (.int (Int32.ofInt a1)), some (.int (Int32.ofInt v7)), some (.int (Int32.ofInt 1))] [] (mz_mk g580 x) Q
      replace hE := zf_t1 hE hc583
      have bz_g580_22 := mz_rd hIg580 bd_137_22
      have ti583 : mz_TI g a1 → mz_TI g580 a1 := fun h => mz_TI_tok (hti h) (fun j hj => (hfg580 140 j nj_18)) (fun j => (hfg580 142 j nj_71)) (fun j => (hfg580 145 j nj_75)) (fun j => (hfg580 146 j nj_76)) (fun j => (hfg580 149 j nj_66)) (by intro hb; omega)
      have kk583 : mz_K1 g g580 := mz_K1_tr (mz_K1_rf _) ⟨(fun j hj => (hfg580 140 j nj_18)), (fun j hj => (hfg580 142 j nj_71)), (fun j hj => (hfg580 149 j nj_66))⟩
      replace hp582 := mz_hd hp582
      refine mm_g 2 (pc1 := 51) (lo1 := [some (.ref 137), some (.int (Int32.ofInt a1)), some (.int (Int32.ofInt v7)), some (.int (Int32.ofInt 1))]) (st1 := [.int (Int32.ofInt 1), .int (Int32.ofInt 1)]) (H1 := mz_mk g580 x) rfl ?_
      refine mz_ic_ne (tgt := 68) rfl rfl ⟨by decide, by decide⟩ ⟨by decide, by decide⟩ (fun c51_583 => ?_) (fun c51_583 => ?_)
      · exfalso; omega
      · skip
        (try unfold zJ_X12_readLine_37 at hE)
        (try unfold zJ_X12_readLine_49 at hE)
        (try unfold zJ_X12_readLine_127 at hE)
        (try unfold zJ_X12_readLine_68 at hE)
        (try unfold zJ_X12_readLine_92 at hE)
        (try unfold zJ_X12_readLine_37 at hE)
        (try unfold zJ_X12_readLine_49 at hE)
        (try unfold zJ_X12_readLine_127 at hE)
        (try unfold zJ_X12_readLine_68 at hE)
        (try unfold zJ_X12_readLine_92 at hE)
        replace hE := zf_ip hE c51_583
        refine mm_g 1 (pc1 := 55) (lo1 := [some (.ref 137), some (.int (Int32.ofInt a1)), some (.int (Int32.ofInt v7)), some (.int (Int32.ofInt 1))]) (st1 := [.ref 137]) (H1 := mz_mk g580 x) rfl ?_
        refine mz_fgI (v := (g580 137 22)) rfl fd_12_203 (by decide) (sc_137 _) (show g580 137 22 = (g580 137 22) from rfl) ?_
        replace hE := zf_tr hE (zf_le (show g580 137 22 = (g580 137 22) from rfl))
        refine mz_if_ne (tgt := 68) rfl rfl ⟨by omega, by omega⟩ (fun c58_583 => ?_) (fun c58_583 => ?_)
        · skip
          replace hE := zf_in hE c58_583
          refine mm_g 2 (pc1 := 70) (lo1 := [some (.ref 137), some (.int (Int32.ofInt a1)), some (.int (Int32.ofInt v7)), some (.int (Int32.ofInt 1))]) (st1 := [.int (Int32.ofInt 2), .int (Int32.ofInt 1)]) (H1 := mz_mk g580 x) rfl ?_
          refine mz_ic_ne (tgt := 92) rfl rfl ⟨by decide, by decide⟩ ⟨by decide, by decide⟩ (fun c70_583 => ?_) (fun c70_583 => ?_)
          · skip
            (try unfold zJ_X12_readLine_37 at hE)
            (try unfold zJ_X12_readLine_49 at hE)
            (try unfold zJ_X12_readLine_127 at hE)
            (try unfold zJ_X12_readLine_68 at hE)
            (try unfold zJ_X12_readLine_92 at hE)
            (try unfold zJ_X12_readLine_37 at hE)
            (try unfold zJ_X12_readLine_49 at hE)
            (try unfold zJ_X12_readLine_127 at hE)
            (try unfold zJ_X12_readLine_68 at hE)
            (try unfold zJ_X12_readLine_92 at hE)
            replace hE := zf_in hE c70_583
            refine mm_g 2 (pc1 := 94) (lo1 := [some (.ref 137), some (.int (Int32.ofInt a1)), some (.int (Int32.ofInt v7)), some (.int (Int32.ofInt 1))]) (st1 := [.int (Int32.ofInt (-1)), .int (Int32.ofInt v7)]) (H1 := mz_mk g580 x) rfl ?_
            refine mz_ic_eq (tgt := 105) rfl rfl (mz_rg l_v7 u_v7) ⟨by decide, by decide⟩ (fun c94_583 => ?_) (fun c94_583 => ?_)
            · skip
              replace hE := zf_ip hE c94_583
              refine mm_g 1 (pc1 := 106) (lo1 := [some (.ref 137), some (.int (Int32.ofInt a1)), some (.int (Int32.ofInt v7)), some (.int (Int32.ofInt 1))]) (st1 := [.ref 137]) (H1 := mz_mk g580 x) rfl ?_
              refine mz_ldcSW (j := 27) rfl rfl rfl ?_
              have hq584 : g580 137 16 = (g 137 16) := (show g580 137 16 = (g 137 16) from ((hfg580 137 16 nj_12).trans rfl))
              have hq585 : g580 137 17 = (g 137 17) := (show g580 137 17 = (g 137 17) from ((hfg580 137 17 nj_13).trans rfl))
              have hq586 : g580 137 18 = (g 137 18) := (show g580 137 18 = (g 137 18) from ((hfg580 137 18 nj_14).trans rfl))
              have hq587 : g580 137 20 = (g 137 20) := (show g580 137 20 = (g 137 20) from ((hfg580 137 20 nj_15).trans rfl))
              have hq588 : g580 137 21 = (g 137 21) := (show g580 137 21 = (g 137 21) from ((hfg580 137 21 nj_16).trans rfl))
              refine mz_cv rfl mt_12_217 (by decide) (sc_137 _) rfl (Nat.le_of_ble_eq_true rfl) (by omega) (f_X12_is (by omega) hx hIg580 (by decide) (by have h90 := (show g580 137 16 = (g 137 16) from ((hfg580 137 16 nj_12).trans rfl)); have h91 := (show g580 137 17 = (g 137 17) from ((hfg580 137 17 nj_13).trans rfl)); have h92 := (show g580 137 18 = (g 137 18) from ((hfg580 137 18 nj_14).trans rfl)); have h93 := (show g580 137 20 = (g 137 20) from ((hfg580 137 20 nj_15).trans rfl)); have h94 := (show g580 137 21 = (g 137 21) from ((hfg580 137 21 nj_16).trans rfl)); omega) (fun v590 l_v590 u_v590 hp591 hc592 => ⟨_, rfl, ?_⟩))
              show mm_W d mmX12_readLine 112 [some (.ref 137), some (.int (Int32.ofInt a1)), some (.int (Int32.ofInt v7)), some (.int (Int32.ofInt 1))] [.int (Int32.ofInt v590)] (mz_mk g580 x) Q
              replace hE := zf_t1 hE hc592
              replace hp591 := mz_hd hp591
              refine mz_if_eq (tgt := 122) rfl rfl (mz_rg l_v590 u_v590) (fun c112_592 => ?_) (fun c112_592 => ?_)
              · skip
                replace hE := zf_ip hE c112_592
                refine mm_g 2 (pc1 := 124) (lo1 := [some (.ref 137), some (.int (Int32.ofInt a1)), some (.int (Int32.ofInt v7)), some (.int (Int32.ofInt 1))]) (st1 := [.int (Int32.ofInt 1), .ref 137]) (H1 := mz_mk g580 x) rfl ?_
                refine mz_cv rfl mt_12_224 (by decide) (sc_137 _) rfl (Nat.le_of_ble_eq_true rfl) (by omega) (f_X12_wrong (by omega) hx hIg580 (by decide) (by decide) (fun g594 hIg594 hfg594 hp595 hp596 hc597 => ⟨_, rfl, ?_⟩))
                show mm_W d mmX12_readLine 127 [some (.ref 137), some (.int (Int32.ofInt a1)), some (.int (Int32.ofInt v7)), some (.int (Int32.ofInt 1))] [] (mz_mk g594 x) Q
                replace hE := zf_t1 hE hc597
                have bz_g594_22 := mz_rd hIg594 bd_137_22
                have ti597 : mz_TI g a1 → mz_TI g594 a1 := fun h => mz_TI_tok (ti583 h) (fun j hj => (hfg594 140 j nj_18)) (fun j => (hfg594 142 j nj_71)) (fun j => (hfg594 145 j nj_75)) (fun j => (hfg594 146 j nj_76)) (fun j => (hfg594 149 j nj_66)) (by intro hb; omega)
                have kk597 : mz_K1 g g594 := mz_K1_tr kk583 ⟨(fun j hj => (hfg594 140 j nj_18)), (fun j hj => (hfg594 142 j nj_71)), (fun j hj => (hfg594 149 j nj_66))⟩
                replace hp596 := mz_hd hp596
                refine mm_g 1 (pc1 := 128) (lo1 := [some (.ref 137), some (.int (Int32.ofInt a1)), some (.int (Int32.ofInt v7)), some (.int (Int32.ofInt 1))]) (st1 := [.ref 137]) (H1 := mz_mk g594 x) rfl ?_
                refine mz_bip rfl bip_59 ?_
                have hq598 : g594 137 16 = (g 137 16) := (show g594 137 16 = (g 137 16) from ((hfg594 137 16 nj_12).trans ((hfg580 137 16 nj_12).trans rfl)))
                have hq599 : g594 137 17 = (g 137 17) := (show g594 137 17 = (g 137 17) from ((hfg594 137 17 nj_13).trans ((hfg580 137 17 nj_13).trans rfl)))
                have hq600 : g594 137 18 = (g 137 18) := (show g594 137 18 = (g 137 18) from ((hfg594 137 18 nj_14).trans ((hfg580 137 18 nj_14).trans rfl)))
                have hq601 : g594 137 20 = (g 137 20) := (show g594 137 20 = (g 137 20) from ((hfg594 137 20 nj_15).trans ((hfg580 137 20 nj_15).trans rfl)))
                have hq602 : g594 137 21 = (g 137 21) := (show g594 137 21 = (g 137 21) from ((hfg594 137 21 nj_16).trans ((hfg580 137 21 nj_16).trans rfl)))
                refine mz_cv rfl mt_12_244 (by decide) (sc_137 _) rfl (Nat.le_of_ble_eq_true rfl) (by omega) (f_X12_mark (by omega) hx hIg594 (by decide) (by decide) (by have h90 := (show g594 137 16 = (g 137 16) from ((hfg594 137 16 nj_12).trans ((hfg580 137 16 nj_12).trans rfl))); have h91 := (show g594 137 17 = (g 137 17) from ((hfg594 137 17 nj_13).trans ((hfg580 137 17 nj_13).trans rfl))); have h92 := (show g594 137 18 = (g 137 18) from ((hfg594 137 18 nj_14).trans ((hfg580 137 18 nj_14).trans rfl))); have h93 := (show g594 137 20 = (g 137 20) from ((hfg594 137 20 nj_15).trans ((hfg580 137 20 nj_15).trans rfl))); have h94 := (show g594 137 21 = (g 137 21) from ((hfg594 137 21 nj_16).trans ((hfg580 137 21 nj_16).trans rfl))); omega) (fun g604 hIg604 hfg604 hp605 hp606 hp607 hp608 hc609 => ⟨_, rfl, ?_⟩))
                show mm_W d mmX12_readLine 133 [some (.ref 137), some (.int (Int32.ofInt a1)), some (.int (Int32.ofInt v7)), some (.int (Int32.ofInt 1))] [] (mz_mk g604 x) Q
                replace hE := zf_t1 hE hc609
                have bz_g604_16 := mz_rd hIg604 bd_137_16
                have hk_g604_17 : g604 137 17 = (g 137 17) := (show g604 137 17 = (g 137 17) from ((hfg604 137 17 nj_59).trans ((hfg594 137 17 nj_13).trans ((hfg580 137 17 nj_13).trans rfl))))
                have bz_g604_18 := mz_rd hIg604 bd_137_18
                have bz_g604_20 := mz_rd hIg604 bd_137_20
                have bz_g604_21 := mz_rd hIg604 bd_137_21
                have bz_g604_22 := mz_rd hIg604 bd_137_22
                have ti609 : mz_TI g a1 → mz_TI g604 a1 := fun h => mz_TI_tok (ti597 h) (fun j hj => (hfg604 140 j nj_60)) (fun j => (hfg604 142 j nj_69)) (fun j => (hfg604 145 j nj_72)) (fun j => (hfg604 146 j nj_73)) (fun j => (hfg604 149 j nj_62)) (by intro hb; omega)
                have kk609 : mz_K1 g g604 := mz_K1_tr kk597 ⟨(fun j hj => (hfg604 140 j nj_60)), (fun j hj => (hfg604 142 j nj_69)), (fun j hj => (hfg604 149 j nj_62))⟩
                have mo_g604 : g 137 20 ≤ g604 137 20 := by omega
                replace p1 := mz_hd p1
                refine mm_g 2 (pc1 := 135) (lo1 := [some (.ref 137), some (.int (Int32.ofInt a1)), some (.int (Int32.ofInt v7)), some (.int (Int32.ofInt 1))]) (st1 := [.int (Int32.ofInt 1), .int (Int32.ofInt a1)]) (H1 := mz_mk g604 x) rfl ?_
                refine mz_ior rfl (fun v610 e_v610 hwv610 => ?_)
                have b_v610 : 0 ≤ v610 ∧ v610 ≤ 3 := by rw [e_v610]; exact mz_or_lt (n := 2) (by decide) (by omega) (by omega) (by omega) (by omega)
                have l_v610 := b_v610.1
                have u_v610 := b_v610.2
                replace hE := zf_tr hE (zf_le e_v610.symm)
                exact mm_rt rfl rfl (hQ _ _ hIg604 (fun k j hk => ((hfg604 k j (fun h => hk (Or.elim h (fun h => (Or.inr (Or.inr (Or.inl h)))) (fun h => (Or.elim h (fun h => (Or.inr (Or.inr (Or.inr (Or.inl h))))) (fun h => (Or.elim h (fun h => (Or.inr (Or.inr (Or.inr (Or.inr (Or.inl h)))))) (fun h => (Or.elim h (fun h => (Or.inr (Or.inr (Or.inr (Or.inr (Or.inr (Or.inl h))))))) (fun h => (Or.elim h (fun h => (Or.inr (Or.inr (Or.inr (Or.inr (Or.inr (Or.inr (Or.inl h)))))))) (fun h => (Or.elim h (fun h => (Or.inl h)) (fun h => (Or.inr (Or.inl h)))))))))))))))).trans ((hfg594 k j (fun h => hk (Or.elim h (fun h => (Or.inl h)) (fun h => (Or.inr (Or.inl h)))))).trans (hfg580 k j (fun h => hk (Or.elim h (fun h => (Or.inl h)) (fun h => (Or.inr (Or.inl h))))))))) (by omega) (by omega) (by have h91 := (show g604 137 17 = (g 137 17) from ((hfg604 137 17 nj_59).trans ((hfg594 137 17 nj_13).trans ((hfg580 137 17 nj_13).trans rfl)))); omega) (by have h91 := (show g604 137 17 = (g 137 17) from ((hfg604 137 17 nj_59).trans ((hfg594 137 17 nj_13).trans ((hfg580 137 17 nj_13).trans rfl)))); omega) (by have h91 := (show g604 137 17 = (g 137 17) from ((hfg604 137 17 nj_59).trans ((hfg594 137 17 nj_13).trans ((hfg580 137 17 nj_13).trans rfl)))); omega) (by have h91 := (show g604 137 17 = (g 137 17) from ((hfg604 137 17 nj_59).trans ((hfg594 137 17 nj_13).trans ((hfg580 137 17 nj_13).trans rfl)))); omega) (by have h := p2; first | exact mz_TI_d (ti609 h) (by omega) | exact mz_TI_bad (ti609 h) (by omega)) kk609 hE)
              · skip
                replace hE := zf_in hE c112_592
                refine mm_g 1 (pc1 := 116) (lo1 := [some (.ref 137), some (.int (Int32.ofInt a1)), some (.int (Int32.ofInt v7)), some (.int (Int32.ofInt 1))]) (st1 := [.ref 137]) (H1 := mz_mk g580 x) rfl ?_
                have hq611 : g580 137 16 = (g 137 16) := (show g580 137 16 = (g 137 16) from ((hfg580 137 16 nj_12).trans rfl))
                have hq612 : g580 137 17 = (g 137 17) := (show g580 137 17 = (g 137 17) from ((hfg580 137 17 nj_13).trans rfl))
                have hq613 : g580 137 18 = (g 137 18) := (show g580 137 18 = (g 137 18) from ((hfg580 137 18 nj_14).trans rfl))
                have hq614 : g580 137 20 = (g 137 20) := (show g580 137 20 = (g 137 20) from ((hfg580 137 20 nj_15).trans rfl))
                have hq615 : g580 137 21 = (g 137 21) := (show g580 137 21 = (g 137 21) from ((hfg580 137 21 nj_16).trans rfl))
                have hq617 : g580 140 4 = (g 140 4) := (show g580 140 4 = (g 140 4) from ((hfg580 140 4 nj_18).trans rfl))
                have hq618 : g580 140 5 = (g 140 5) := (show g580 140 5 = (g 140 5) from ((hfg580 140 5 nj_18).trans rfl))
                have hq619 : g580 140 6 = (g 140 6) := (show g580 140 6 = (g 140 6) from ((hfg580 140 6 nj_18).trans rfl))
                have hq620 : g580 140 7 = (g 140 7) := (show g580 140 7 = (g 140 7) from ((hfg580 140 7 nj_18).trans rfl))
                refine mz_cv rfl mt_12_291 (by decide) (sc_137 _) rfl (Nat.le_of_ble_eq_true rfl) (by omega) (f_X12_sayWord (by omega) hx hIg580 (by have h90 := (show g580 137 16 = (g 137 16) from ((hfg580 137 16 nj_12).trans rfl)); have h91 := (show g580 137 17 = (g 137 17) from ((hfg580 137 17 nj_13).trans rfl)); have h92 := (show g580 137 18 = (g 137 18) from ((hfg580 137 18 nj_14).trans rfl)); have h93 := (show g580 137 20 = (g 137 20) from ((hfg580 137 20 nj_15).trans rfl)); have h94 := (show g580 137 21 = (g 137 21) from ((hfg580 137 21 nj_16).trans rfl)); omega) (fun g621 hIg621 hfg621 hp622 hp623 hp624 hp625 hp626 hp627 hc628 => ⟨_, rfl, ?_⟩))
                show mm_W d mmX12_readLine 119 [some (.ref 137), some (.int (Int32.ofInt a1)), some (.int (Int32.ofInt v7)), some (.int (Int32.ofInt 1))] [] (mz_mk g621 x) Q
                replace hE := zf_t1 hE hc628
                have bz_g621_16 := mz_rd hIg621 bd_137_16
                have hk_g621_17 : g621 137 17 = (g 137 17) := (show g621 137 17 = (g 137 17) from ((hfg621 137 17 nj_77).trans ((hfg580 137 17 nj_13).trans rfl)))
                have bz_g621_18 := mz_rd hIg621 bd_137_18
                have bz_g621_20 := mz_rd hIg621 bd_137_20
                have bz_g621_21 := mz_rd hIg621 bd_137_21
                have bz_g621_22 := mz_rd hIg621 bd_137_22
                have bt_g621_4 := mz_rd hIg621 bt_140_4
                have hk_g621_5 : g621 140 5 = (g 140 5) := (show g621 140 5 = (g 140 5) from ((hfg621 140 5 nj_78).trans ((hfg580 140 5 nj_18).trans rfl)))
                have hk_g621_6 : g621 140 6 = (g 140 6) := (show g621 140 6 = (g 140 6) from ((hfg621 140 6 nj_79).trans ((hfg580 140 6 nj_18).trans rfl)))
                have hk_g621_7 : g621 140 7 = (g 140 7) := (show g621 140 7 = (g 140 7) from ((hfg621 140 7 nj_80).trans ((hfg580 140 7 nj_18).trans rfl)))
                have ti628 : mz_TI g a1 → mz_TI g621 a1 := fun h => mz_TI_word (ti583 h) hp626 (by omega) (hfg621 140 5 nj_78) (hfg621 140 7 nj_80) (fun j => (hfg621 145 j nj_81)) (fun j => (hfg621 146 j nj_82)) (fun j => (hfg621 149 j nj_83)) (by intro hb; omega)
                have kk628 : mz_K1 g g621 := mz_K1_tr kk583 ⟨(fun j hj => (hfg621 140 j (fun h => (Or.elim h (fun h => (absurd (show 140 = 137 from (h).1) (by decide))) (fun h => (Or.elim h (fun h => (absurd (show 140 = 137 from (h).1) (by decide))) (fun h => (Or.elim h (fun h => (absurd (show 140 = 137 from (h).1) (by decide))) (fun h => (Or.elim h (fun h => (absurd (show 140 = 137 from (h).1) (by decide))) (fun h => (Or.elim h (fun h => (absurd (show 140 = 137 from (h).1) (by decide))) (fun h => (Or.elim h (fun h => (absurd (show 140 = 137 from (h).1) (by decide))) (fun h => (Or.elim h (fun h => (absurd (show 140 = 137 from (h).1) (by decide))) (fun h => (Or.elim h (fun h => (absurd (show 140 = 141 from h) (by decide))) (fun h => (Or.elim h (fun h => (absurd (show 140 = 142 from h) (by decide))) (fun h => (Or.elim h (fun h => (absurd (show 140 = 143 from h) (by decide))) (fun h => (by have h9 : (140 = 140 ∧ j = 4) := h; omega)))))))))))))))))))))))), hp625, (fun j hj => (hfg621 149 j nj_83))⟩
                have mo_g621 : g 137 20 ≤ g621 137 20 := by omega
                replace p1 := mz_hd p1
                refine mz_gt (tgt := 127) rfl rfl ?_
                refine mm_g 1 (pc1 := 128) (lo1 := [some (.ref 137), some (.int (Int32.ofInt a1)), some (.int (Int32.ofInt v7)), some (.int (Int32.ofInt 1))]) (st1 := [.ref 137]) (H1 := mz_mk g621 x) rfl ?_
                refine mz_bip rfl bip_59 ?_
                have hq630 : g621 137 17 = (g 137 17) := (show g621 137 17 = (g 137 17) from ((hfg621 137 17 nj_77).trans ((hfg580 137 17 nj_13).trans rfl)))
                refine mz_cv rfl mt_12_244 (by decide) (sc_137 _) rfl (Nat.le_of_ble_eq_true rfl) (by omega) (f_X12_mark (by omega) hx hIg621 (by decide) (by decide) (by have h91 := (show g621 137 17 = (g 137 17) from ((hfg621 137 17 nj_77).trans ((hfg580 137 17 nj_13).trans rfl))); omega) (fun g635 hIg635 hfg635 hp636 hp637 hp638 hp639 hc640 => ⟨_, rfl, ?_⟩))
                show mm_W d mmX12_readLine 133 [some (.ref 137), some (.int (Int32.ofInt a1)), some (.int (Int32.ofInt v7)), some (.int (Int32.ofInt 1))] [] (mz_mk g635 x) Q
                replace hE := zf_t1 hE hc640
                have bz_g635_16 := mz_rd hIg635 bd_137_16
                have hk_g635_17 : g635 137 17 = (g 137 17) := (show g635 137 17 = (g 137 17) from ((hfg635 137 17 nj_59).trans ((hfg621 137 17 nj_77).trans ((hfg580 137 17 nj_13).trans rfl))))
                have bz_g635_18 := mz_rd hIg635 bd_137_18
                have bz_g635_20 := mz_rd hIg635 bd_137_20
                have bz_g635_21 := mz_rd hIg635 bd_137_21
                have bz_g635_22 := mz_rd hIg635 bd_137_22
                have ti640 : mz_TI g a1 → mz_TI g635 a1 := fun h => mz_TI_tok (ti628 h) (fun j hj => (hfg635 140 j nj_60)) (fun j => (hfg635 142 j nj_69)) (fun j => (hfg635 145 j nj_72)) (fun j => (hfg635 146 j nj_73)) (fun j => (hfg635 149 j nj_62)) (by intro hb; omega)
                have kk640 : mz_K1 g g635 := mz_K1_tr kk628 ⟨(fun j hj => (hfg635 140 j nj_60)), (fun j hj => (hfg635 142 j nj_69)), (fun j hj => (hfg635 149 j nj_62))⟩
                have mo_g635 : g 137 20 ≤ g635 137 20 := by omega
                replace hp622 := mz_hd hp622
                refine mm_g 2 (pc1 := 135) (lo1 := [some (.ref 137), some (.int (Int32.ofInt a1)), some (.int (Int32.ofInt v7)), some (.int (Int32.ofInt 1))]) (st1 := [.int (Int32.ofInt 1), .int (Int32.ofInt a1)]) (H1 := mz_mk g635 x) rfl ?_
                refine mz_ior rfl (fun v641 e_v641 hwv641 => ?_)
                have b_v641 : 0 ≤ v641 ∧ v641 ≤ 3 := by rw [e_v641]; exact mz_or_lt (n := 2) (by decide) (by omega) (by omega) (by omega) (by omega)
                have l_v641 := b_v641.1
                have u_v641 := b_v641.2
                replace hE := zf_tr hE (zf_le e_v641.symm)
                exact mm_rt rfl rfl (hQ _ _ hIg635 (fun k j hk => ((hfg635 k j (fun h => hk (Or.elim h (fun h => (Or.inr (Or.inr (Or.inl h)))) (fun h => (Or.elim h (fun h => (Or.inr (Or.inr (Or.inr (Or.inl h))))) (fun h => (Or.elim h (fun h => (Or.inr (Or.inr (Or.inr (Or.inr (Or.inl h)))))) (fun h => (Or.elim h (fun h => (Or.inr (Or.inr (Or.inr (Or.inr (Or.inr (Or.inl h))))))) (fun h => (Or.elim h (fun h => (Or.inr (Or.inr (Or.inr (Or.inr (Or.inr (Or.inr (Or.inl h)))))))) (fun h => (Or.elim h (fun h => (Or.inl h)) (fun h => (Or.inr (Or.inl h)))))))))))))))).trans ((hfg621 k j (fun h => hk (Or.elim h (fun h => (Or.inr (Or.inr (Or.inl h)))) (fun h => (Or.elim h (fun h => (Or.inr (Or.inr (Or.inr (Or.inl h))))) (fun h => (Or.elim h (fun h => (Or.inr (Or.inr (Or.inr (Or.inr (Or.inl h)))))) (fun h => (Or.elim h (fun h => (Or.inr (Or.inr (Or.inr (Or.inr (Or.inr (Or.inl h))))))) (fun h => (Or.elim h (fun h => (Or.inr (Or.inr (Or.inr (Or.inr (Or.inr (Or.inr (Or.inl h)))))))) (fun h => (Or.elim h (fun h => (Or.inl h)) (fun h => (Or.elim h (fun h => (Or.inr (Or.inl h))) (fun h => (Or.elim h (fun h => (Or.inr (Or.inr (Or.inr (Or.inr (Or.inr (Or.inr (Or.inr (Or.inl h))))))))) (fun h => (Or.elim h (fun h => (Or.inr (Or.inr (Or.inr (Or.inr (Or.inr (Or.inr (Or.inr (Or.inr (Or.inl h)))))))))) (fun h => (Or.elim h (fun h => (Or.inr (Or.inr (Or.inr (Or.inr (Or.inr (Or.inr (Or.inr (Or.inr (Or.inr (Or.inl h))))))))))) (fun h => (Or.inr (Or.inr (Or.inr (Or.inr (Or.inr (Or.inr (Or.inr (Or.inr (Or.inr (Or.inr (Or.inl h))))))))))))))))))))))))))))))))).trans (hfg580 k j (fun h => hk (Or.elim h (fun h => (Or.inl h)) (fun h => (Or.inr (Or.inl h))))))))) (by omega) (by omega) (by have h91 := (show g635 137 17 = (g 137 17) from ((hfg635 137 17 nj_59).trans ((hfg621 137 17 nj_77).trans ((hfg580 137 17 nj_13).trans rfl)))); omega) (by have h91 := (show g635 137 17 = (g 137 17) from ((hfg635 137 17 nj_59).trans ((hfg621 137 17 nj_77).trans ((hfg580 137 17 nj_13).trans rfl)))); omega) (by have h91 := (show g635 137 17 = (g 137 17) from ((hfg635 137 17 nj_59).trans ((hfg621 137 17 nj_77).trans ((hfg580 137 17 nj_13).trans rfl)))); omega) (by have h91 := (show g635 137 17 = (g 137 17) from ((hfg635 137 17 nj_59).trans ((hfg621 137 17 nj_77).trans ((hfg580 137 17 nj_13).trans rfl)))); omega) (by have h := p2; first | exact mz_TI_d (ti640 h) (by omega) | exact mz_TI_bad (ti640 h) (by omega)) kk640 hE)
            · skip
              replace hE := zf_in hE c94_583
              refine mm_g 2 (pc1 := 99) (lo1 := [some (.ref 137), some (.int (Int32.ofInt a1)), some (.int (Int32.ofInt v7)), some (.int (Int32.ofInt 1))]) (st1 := [.int (Int32.ofInt v7), .ref 137]) (H1 := mz_mk g580 x) rfl ?_
              have hq642 : g580 137 16 = (g 137 16) := (show g580 137 16 = (g 137 16) from ((hfg580 137 16 nj_12).trans rfl))
              have hq643 : g580 137 17 = (g 137 17) := (show g580 137 17 = (g 137 17) from ((hfg580 137 17 nj_13).trans rfl))
              have hq644 : g580 137 18 = (g 137 18) := (show g580 137 18 = (g 137 18) from ((hfg580 137 18 nj_14).trans rfl))
              have hq645 : g580 137 20 = (g 137 20) := (show g580 137 20 = (g 137 20) from ((hfg580 137 20 nj_15).trans rfl))
              have hq646 : g580 137 21 = (g 137 21) := (show g580 137 21 = (g 137 21) from ((hfg580 137 21 nj_16).trans rfl))
              have hq648 : g580 140 4 = (g 140 4) := (show g580 140 4 = (g 140 4) from ((hfg580 140 4 nj_18).trans rfl))
              have hq649 : g580 140 5 = (g 140 5) := (show g580 140 5 = (g 140 5) from ((hfg580 140 5 nj_18).trans rfl))
              have hq650 : g580 140 6 = (g 140 6) := (show g580 140 6 = (g 140 6) from ((hfg580 140 6 nj_18).trans rfl))
              have hq651 : g580 140 7 = (g 140 7) := (show g580 140 7 = (g 140 7) from ((hfg580 140 7 nj_18).trans rfl))
              refine mz_cv rfl mt_12_286 (by decide) (sc_137 _) rfl (Nat.le_of_ble_eq_true rfl) (by omega) (f_X12_sayTrunk (by omega) hx hIg580 (by omega) (by omega) (by have h90 := (show g580 137 16 = (g 137 16) from ((hfg580 137 16 nj_12).trans rfl)); have h91 := (show g580 137 17 = (g 137 17) from ((hfg580 137 17 nj_13).trans rfl)); have h92 := (show g580 137 18 = (g 137 18) from ((hfg580 137 18 nj_14).trans rfl)); have h93 := (show g580 137 20 = (g 137 20) from ((hfg580 137 20 nj_15).trans rfl)); have h94 := (show g580 137 21 = (g 137 21) from ((hfg580 137 21 nj_16).trans rfl)); omega) (fun g652 hIg652 hfg652 hp653 hp654 hp655 hp656 hc657 => ⟨_, rfl, ?_⟩))
              show mm_W d mmX12_readLine 102 [some (.ref 137), some (.int (Int32.ofInt a1)), some (.int (Int32.ofInt v7)), some (.int (Int32.ofInt 1))] [] (mz_mk g652 x) Q
              replace hE := zf_t1 hE hc657
              have bz_g652_16 := mz_rd hIg652 bd_137_16
              have hk_g652_17 : g652 137 17 = (g 137 17) := (show g652 137 17 = (g 137 17) from ((hfg652 137 17 nj_84).trans ((hfg580 137 17 nj_13).trans rfl)))
              have bz_g652_18 := mz_rd hIg652 bd_137_18
              have bz_g652_20 := mz_rd hIg652 bd_137_20
              have bz_g652_21 := mz_rd hIg652 bd_137_21
              have bz_g652_22 := mz_rd hIg652 bd_137_22
              have hk_g652_4 : g652 140 4 = (g 140 4) := (show g652 140 4 = (g 140 4) from ((hfg652 140 4 nj_85).trans ((hfg580 140 4 nj_18).trans rfl)))
              have bt_g652_5 := mz_rd hIg652 bt_140_5
              have hk_g652_6 : g652 140 6 = (g 140 6) := (show g652 140 6 = (g 140 6) from ((hfg652 140 6 nj_86).trans ((hfg580 140 6 nj_18).trans rfl)))
              have hk_g652_7 : g652 140 7 = (g 140 7) := (show g652 140 7 = (g 140 7) from ((hfg652 140 7 nj_87).trans ((hfg580 140 7 nj_18).trans rfl)))
              have ti657 : mz_TI g a1 → mz_TI g652 a1 := fun h => mz_TI_trunk (ti583 h) hp656 (hfg652 140 4 nj_85) (hfg652 140 7 nj_87) (fun j => (hfg652 142 j nj_88)) (fun j => (hfg652 149 j nj_89)) (by intro hb; omega)
              have kk657 : mz_K1 g g652 := mz_K1_tr kk583 ⟨(fun j hj => (hfg652 140 j (fun h => (Or.elim h (fun h => (absurd (show 140 = 137 from (h).1) (by decide))) (fun h => (Or.elim h (fun h => (absurd (show 140 = 137 from (h).1) (by decide))) (fun h => (Or.elim h (fun h => (absurd (show 140 = 137 from (h).1) (by decide))) (fun h => (Or.elim h (fun h => (absurd (show 140 = 137 from (h).1) (by decide))) (fun h => (Or.elim h (fun h => (absurd (show 140 = 137 from (h).1) (by decide))) (fun h => (Or.elim h (fun h => (absurd (show 140 = 137 from (h).1) (by decide))) (fun h => (Or.elim h (fun h => (absurd (show 140 = 137 from (h).1) (by decide))) (fun h => (Or.elim h (fun h => (absurd (show 140 = 144 from h) (by decide))) (fun h => (Or.elim h (fun h => (absurd (show 140 = 145 from h) (by decide))) (fun h => (Or.elim h (fun h => (absurd (show 140 = 146 from h) (by decide))) (fun h => (Or.elim h (fun h => (absurd (show 140 = 147 from h) (by decide))) (fun h => (by have h9 : (140 = 140 ∧ j = 5) := h; omega)))))))))))))))))))))))))), (fun j hj => (hfg652 142 j nj_88)), (fun j hj => (hfg652 149 j nj_89))⟩
              have mo_g652 : g 137 20 ≤ g652 137 20 := by omega
              replace p1 := mz_hd p1
              refine mz_gt (tgt := 127) rfl rfl ?_
              refine mm_g 1 (pc1 := 128) (lo1 := [some (.ref 137), some (.int (Int32.ofInt a1)), some (.int (Int32.ofInt v7)), some (.int (Int32.ofInt 1))]) (st1 := [.ref 137]) (H1 := mz_mk g652 x) rfl ?_
              refine mz_bip rfl bip_59 ?_
              have hq659 : g652 137 17 = (g 137 17) := (show g652 137 17 = (g 137 17) from ((hfg652 137 17 nj_84).trans ((hfg580 137 17 nj_13).trans rfl)))
              refine mz_cv rfl mt_12_244 (by decide) (sc_137 _) rfl (Nat.le_of_ble_eq_true rfl) (by omega) (f_X12_mark (by omega) hx hIg652 (by decide) (by decide) (by have h91 := (show g652 137 17 = (g 137 17) from ((hfg652 137 17 nj_84).trans ((hfg580 137 17 nj_13).trans rfl))); omega) (fun g664 hIg664 hfg664 hp665 hp666 hp667 hp668 hc669 => ⟨_, rfl, ?_⟩))
              show mm_W d mmX12_readLine 133 [some (.ref 137), some (.int (Int32.ofInt a1)), some (.int (Int32.ofInt v7)), some (.int (Int32.ofInt 1))] [] (mz_mk g664 x) Q
              replace hE := zf_t1 hE hc669
              have bz_g664_16 := mz_rd hIg664 bd_137_16
              have hk_g664_17 : g664 137 17 = (g 137 17) := (show g664 137 17 = (g 137 17) from ((hfg664 137 17 nj_59).trans ((hfg652 137 17 nj_84).trans ((hfg580 137 17 nj_13).trans rfl))))
              have bz_g664_18 := mz_rd hIg664 bd_137_18
              have bz_g664_20 := mz_rd hIg664 bd_137_20
              have bz_g664_21 := mz_rd hIg664 bd_137_21
              have bz_g664_22 := mz_rd hIg664 bd_137_22
              have ti669 : mz_TI g a1 → mz_TI g664 a1 := fun h => mz_TI_tok (ti657 h) (fun j hj => (hfg664 140 j nj_60)) (fun j => (hfg664 142 j nj_69)) (fun j => (hfg664 145 j nj_72)) (fun j => (hfg664 146 j nj_73)) (fun j => (hfg664 149 j nj_62)) (by intro hb; omega)
              have kk669 : mz_K1 g g664 := mz_K1_tr kk657 ⟨(fun j hj => (hfg664 140 j nj_60)), (fun j hj => (hfg664 142 j nj_69)), (fun j hj => (hfg664 149 j nj_62))⟩
              have mo_g664 : g 137 20 ≤ g664 137 20 := by omega
              replace hp653 := mz_hd hp653
              refine mm_g 2 (pc1 := 135) (lo1 := [some (.ref 137), some (.int (Int32.ofInt a1)), some (.int (Int32.ofInt v7)), some (.int (Int32.ofInt 1))]) (st1 := [.int (Int32.ofInt 1), .int (Int32.ofInt a1)]) (H1 := mz_mk g664 x) rfl ?_
              refine mz_ior rfl (fun v670 e_v670 hwv670 => ?_)
              have b_v670 : 0 ≤ v670 ∧ v670 ≤ 3 := by rw [e_v670]; exact mz_or_lt (n := 2) (by decide) (by omega) (by omega) (by omega) (by omega)
              have l_v670 := b_v670.1
              have u_v670 := b_v670.2
              replace hE := zf_tr hE (zf_le e_v670.symm)
              exact mm_rt rfl rfl (hQ _ _ hIg664 (fun k j hk => ((hfg664 k j (fun h => hk (Or.elim h (fun h => (Or.inr (Or.inr (Or.inl h)))) (fun h => (Or.elim h (fun h => (Or.inr (Or.inr (Or.inr (Or.inl h))))) (fun h => (Or.elim h (fun h => (Or.inr (Or.inr (Or.inr (Or.inr (Or.inl h)))))) (fun h => (Or.elim h (fun h => (Or.inr (Or.inr (Or.inr (Or.inr (Or.inr (Or.inl h))))))) (fun h => (Or.elim h (fun h => (Or.inr (Or.inr (Or.inr (Or.inr (Or.inr (Or.inr (Or.inl h)))))))) (fun h => (Or.elim h (fun h => (Or.inl h)) (fun h => (Or.inr (Or.inl h)))))))))))))))).trans ((hfg652 k j (fun h => hk (Or.elim h (fun h => (Or.inr (Or.inr (Or.inl h)))) (fun h => (Or.elim h (fun h => (Or.inr (Or.inr (Or.inr (Or.inl h))))) (fun h => (Or.elim h (fun h => (Or.inr (Or.inr (Or.inr (Or.inr (Or.inl h)))))) (fun h => (Or.elim h (fun h => (Or.inr (Or.inr (Or.inr (Or.inr (Or.inr (Or.inl h))))))) (fun h => (Or.elim h (fun h => (Or.inr (Or.inr (Or.inr (Or.inr (Or.inr (Or.inr (Or.inl h)))))))) (fun h => (Or.elim h (fun h => (Or.inl h)) (fun h => (Or.elim h (fun h => (Or.inr (Or.inl h))) (fun h => (Or.elim h (fun h => (Or.inr (Or.inr (Or.inr (Or.inr (Or.inr (Or.inr (Or.inr (Or.inr (Or.inr (Or.inr (Or.inr (Or.inl h))))))))))))) (fun h => (Or.elim h (fun h => (Or.inr (Or.inr (Or.inr (Or.inr (Or.inr (Or.inr (Or.inr (Or.inr (Or.inr (Or.inr (Or.inr (Or.inr (Or.inl h)))))))))))))) (fun h => (Or.elim h (fun h => (Or.inr (Or.inr (Or.inr (Or.inr (Or.inr (Or.inr (Or.inr (Or.inr (Or.inr (Or.inr (Or.inr (Or.inr (Or.inr (Or.inl h))))))))))))))) (fun h => (Or.elim h (fun h => (Or.inr (Or.inr (Or.inr (Or.inr (Or.inr (Or.inr (Or.inr (Or.inr (Or.inr (Or.inr (Or.inr (Or.inr (Or.inr (Or.inr (Or.inl h)))))))))))))))) (fun h => (Or.inr (Or.inr (Or.inr (Or.inr (Or.inr (Or.inr (Or.inr (Or.inr (Or.inr (Or.inr (Or.inr (Or.inr (Or.inr (Or.inr (Or.inr (Or.inl h)))))))))))))))))))))))))))))))))))))))).trans (hfg580 k j (fun h => hk (Or.elim h (fun h => (Or.inl h)) (fun h => (Or.inr (Or.inl h))))))))) (by omega) (by omega) (by have h91 := (show g664 137 17 = (g 137 17) from ((hfg664 137 17 nj_59).trans ((hfg652 137 17 nj_84).trans ((hfg580 137 17 nj_13).trans rfl)))); omega) (by have h91 := (show g664 137 17 = (g 137 17) from ((hfg664 137 17 nj_59).trans ((hfg652 137 17 nj_84).trans ((hfg580 137 17 nj_13).trans rfl)))); omega) (by have h91 := (show g664 137 17 = (g 137 17) from ((hfg664 137 17 nj_59).trans ((hfg652 137 17 nj_84).trans ((hfg580 137 17 nj_13).trans rfl)))); omega) (by have h91 := (show g664 137 17 = (g 137 17) from ((hfg664 137 17 nj_59).trans ((hfg652 137 17 nj_84).trans ((hfg580 137 17 nj_13).trans rfl)))); omega) (by have h := p2; first | exact mz_TI_d (ti669 h) (by omega) | exact mz_TI_bad (ti669 h) (by omega)) kk669 hE)
          · exfalso; omega
        · skip
          replace hE := zf_ip hE c58_583
          refine mm_g 1 (pc1 := 62) (lo1 := [some (.ref 137), some (.int (Int32.ofInt a1)), some (.int (Int32.ofInt v7)), some (.int (Int32.ofInt 1))]) (st1 := [.ref 137]) (H1 := mz_mk g580 x) rfl ?_
          have hq671 : g580 137 16 = (g 137 16) := (show g580 137 16 = (g 137 16) from ((hfg580 137 16 nj_12).trans rfl))
          have hq672 : g580 137 17 = (g 137 17) := (show g580 137 17 = (g 137 17) from ((hfg580 137 17 nj_13).trans rfl))
          have hq673 : g580 137 18 = (g 137 18) := (show g580 137 18 = (g 137 18) from ((hfg580 137 18 nj_14).trans rfl))
          have hq674 : g580 137 20 = (g 137 20) := (show g580 137 20 = (g 137 20) from ((hfg580 137 20 nj_15).trans rfl))
          have hq675 : g580 137 21 = (g 137 21) := (show g580 137 21 = (g 137 21) from ((hfg580 137 21 nj_16).trans rfl))
          refine mz_cv rfl mt_12_283 (by decide) (sc_137 _) rfl (Nat.le_of_ble_eq_true rfl) (by omega) (f_X12_sayHeat (by omega) hx hIg580 (by have h90 := (show g580 137 16 = (g 137 16) from ((hfg580 137 16 nj_12).trans rfl)); have h91 := (show g580 137 17 = (g 137 17) from ((hfg580 137 17 nj_13).trans rfl)); have h92 := (show g580 137 18 = (g 137 18) from ((hfg580 137 18 nj_14).trans rfl)); have h93 := (show g580 137 20 = (g 137 20) from ((hfg580 137 20 nj_15).trans rfl)); have h94 := (show g580 137 21 = (g 137 21) from ((hfg580 137 21 nj_16).trans rfl)); omega) (fun g677 hIg677 hfg677 hp678 hp679 hp680 hc681 => ⟨_, rfl, ?_⟩))
          show mm_W d mmX12_readLine 65 [some (.ref 137), some (.int (Int32.ofInt a1)), some (.int (Int32.ofInt v7)), some (.int (Int32.ofInt 1))] [] (mz_mk g677 x) Q
          replace hE := zf_t1 hE hc681
          have bz_g677_16 := mz_rd hIg677 bd_137_16
          have hk_g677_17 : g677 137 17 = (g 137 17) := (show g677 137 17 = (g 137 17) from ((hfg677 137 17 nj_95).trans ((hfg580 137 17 nj_13).trans rfl)))
          have bz_g677_18 := mz_rd hIg677 bd_137_18
          have bz_g677_20 := mz_rd hIg677 bd_137_20
          have bz_g677_21 := mz_rd hIg677 bd_137_21
          have bz_g677_22 := mz_rd hIg677 bd_137_22
          have ti681 : mz_TI g a1 → mz_TI g677 a1 := fun h => mz_TI_tok (ti583 h) (fun j hj => (hfg677 140 j (fun h => (Or.elim h (fun h => (absurd (show 140 = 137 from (h).1) (by decide))) (fun h => (Or.elim h (fun h => (absurd (show 140 = 137 from (h).1) (by decide))) (fun h => (Or.elim h (fun h => (absurd (show 140 = 137 from (h).1) (by decide))) (fun h => (Or.elim h (fun h => (absurd (show 140 = 137 from (h).1) (by decide))) (fun h => (Or.elim h (fun h => (absurd (show 140 = 137 from (h).1) (by decide))) (fun h => (Or.elim h (fun h => (absurd (show 140 = 137 from (h).1) (by decide))) (fun h => (Or.elim h (fun h => (absurd (show 140 = 137 from (h).1) (by decide))) (fun h => (Or.elim h (fun h => (by have h9 : (140 = 140 ∧ j = 6) := h; omega)) (fun h => (absurd (show 140 = 148 from h) (by decide))))))))))))))))))))) (fun j => (hfg677 142 j nj_96)) (fun j => (hfg677 145 j nj_97)) (fun j => (hfg677 146 j nj_98)) (fun j => (hfg677 149 j nj_99)) (by intro hb; omega)
          have kk681 : mz_K1 g g677 := mz_K1_tr kk583 ⟨(fun j hj => (hfg677 140 j (fun h => (Or.elim h (fun h => (absurd (show 140 = 137 from (h).1) (by decide))) (fun h => (Or.elim h (fun h => (absurd (show 140 = 137 from (h).1) (by decide))) (fun h => (Or.elim h (fun h => (absurd (show 140 = 137 from (h).1) (by decide))) (fun h => (Or.elim h (fun h => (absurd (show 140 = 137 from (h).1) (by decide))) (fun h => (Or.elim h (fun h => (absurd (show 140 = 137 from (h).1) (by decide))) (fun h => (Or.elim h (fun h => (absurd (show 140 = 137 from (h).1) (by decide))) (fun h => (Or.elim h (fun h => (absurd (show 140 = 137 from (h).1) (by decide))) (fun h => (Or.elim h (fun h => (by have h9 : (140 = 140 ∧ j = 6) := h; omega)) (fun h => (absurd (show 140 = 148 from h) (by decide))))))))))))))))))))), (fun j hj => (hfg677 142 j nj_96)), (fun j hj => (hfg677 149 j nj_99))⟩
          have mo_g677 : g 137 20 ≤ g677 137 20 := by omega
          replace p1 := mz_hd p1
          refine mz_gt (tgt := 127) rfl rfl ?_
          refine mm_g 1 (pc1 := 128) (lo1 := [some (.ref 137), some (.int (Int32.ofInt a1)), some (.int (Int32.ofInt v7)), some (.int (Int32.ofInt 1))]) (st1 := [.ref 137]) (H1 := mz_mk g677 x) rfl ?_
          refine mz_bip rfl bip_59 ?_
          have hq683 : g677 137 17 = (g 137 17) := (show g677 137 17 = (g 137 17) from ((hfg677 137 17 nj_95).trans ((hfg580 137 17 nj_13).trans rfl)))
          refine mz_cv rfl mt_12_244 (by decide) (sc_137 _) rfl (Nat.le_of_ble_eq_true rfl) (by omega) (f_X12_mark (by omega) hx hIg677 (by decide) (by decide) (by have h91 := (show g677 137 17 = (g 137 17) from ((hfg677 137 17 nj_95).trans ((hfg580 137 17 nj_13).trans rfl))); omega) (fun g688 hIg688 hfg688 hp689 hp690 hp691 hp692 hc693 => ⟨_, rfl, ?_⟩))
          show mm_W d mmX12_readLine 133 [some (.ref 137), some (.int (Int32.ofInt a1)), some (.int (Int32.ofInt v7)), some (.int (Int32.ofInt 1))] [] (mz_mk g688 x) Q
          replace hE := zf_t1 hE hc693
          have bz_g688_16 := mz_rd hIg688 bd_137_16
          have hk_g688_17 : g688 137 17 = (g 137 17) := (show g688 137 17 = (g 137 17) from ((hfg688 137 17 nj_59).trans ((hfg677 137 17 nj_95).trans ((hfg580 137 17 nj_13).trans rfl))))
          have bz_g688_18 := mz_rd hIg688 bd_137_18
          have bz_g688_20 := mz_rd hIg688 bd_137_20
          have bz_g688_21 := mz_rd hIg688 bd_137_21
          have bz_g688_22 := mz_rd hIg688 bd_137_22
          have ti693 : mz_TI g a1 → mz_TI g688 a1 := fun h => mz_TI_tok (ti681 h) (fun j hj => (hfg688 140 j nj_60)) (fun j => (hfg688 142 j nj_69)) (fun j => (hfg688 145 j nj_72)) (fun j => (hfg688 146 j nj_73)) (fun j => (hfg688 149 j nj_62)) (by intro hb; omega)
          have kk693 : mz_K1 g g688 := mz_K1_tr kk681 ⟨(fun j hj => (hfg688 140 j nj_60)), (fun j hj => (hfg688 142 j nj_69)), (fun j hj => (hfg688 149 j nj_62))⟩
          have mo_g688 : g 137 20 ≤ g688 137 20 := by omega
          replace hp678 := mz_hd hp678
          refine mm_g 2 (pc1 := 135) (lo1 := [some (.ref 137), some (.int (Int32.ofInt a1)), some (.int (Int32.ofInt v7)), some (.int (Int32.ofInt 1))]) (st1 := [.int (Int32.ofInt 1), .int (Int32.ofInt a1)]) (H1 := mz_mk g688 x) rfl ?_
          refine mz_ior rfl (fun v694 e_v694 hwv694 => ?_)
          have b_v694 : 0 ≤ v694 ∧ v694 ≤ 3 := by rw [e_v694]; exact mz_or_lt (n := 2) (by decide) (by omega) (by omega) (by omega) (by omega)
          have l_v694 := b_v694.1
          have u_v694 := b_v694.2
          replace hE := zf_tr hE (zf_le e_v694.symm)
          exact mm_rt rfl rfl (hQ _ _ hIg688 (fun k j hk => ((hfg688 k j (fun h => hk (Or.elim h (fun h => (Or.inr (Or.inr (Or.inl h)))) (fun h => (Or.elim h (fun h => (Or.inr (Or.inr (Or.inr (Or.inl h))))) (fun h => (Or.elim h (fun h => (Or.inr (Or.inr (Or.inr (Or.inr (Or.inl h)))))) (fun h => (Or.elim h (fun h => (Or.inr (Or.inr (Or.inr (Or.inr (Or.inr (Or.inl h))))))) (fun h => (Or.elim h (fun h => (Or.inr (Or.inr (Or.inr (Or.inr (Or.inr (Or.inr (Or.inl h)))))))) (fun h => (Or.elim h (fun h => (Or.inl h)) (fun h => (Or.inr (Or.inl h)))))))))))))))).trans ((hfg677 k j (fun h => hk (Or.elim h (fun h => (Or.inr (Or.inr (Or.inl h)))) (fun h => (Or.elim h (fun h => (Or.inr (Or.inr (Or.inr (Or.inl h))))) (fun h => (Or.elim h (fun h => (Or.inr (Or.inr (Or.inr (Or.inr (Or.inl h)))))) (fun h => (Or.elim h (fun h => (Or.inr (Or.inr (Or.inr (Or.inr (Or.inr (Or.inl h))))))) (fun h => (Or.elim h (fun h => (Or.inr (Or.inr (Or.inr (Or.inr (Or.inr (Or.inr (Or.inl h)))))))) (fun h => (Or.elim h (fun h => (Or.inl h)) (fun h => (Or.elim h (fun h => (Or.inr (Or.inl h))) (fun h => (Or.elim h (fun h => (Or.inr (Or.inr (Or.inr (Or.inr (Or.inr (Or.inr (Or.inr (Or.inr (Or.inr (Or.inr (Or.inr (Or.inr (Or.inr (Or.inr (Or.inr (Or.inr (Or.inr (Or.inr (Or.inl h)))))))))))))))))))) (fun h => (Or.inr (Or.inr (Or.inr (Or.inr (Or.inr (Or.inr (Or.inr (Or.inr (Or.inr (Or.inr (Or.inr (Or.inr (Or.inr (Or.inr (Or.inr (Or.inr (Or.inr (Or.inr (Or.inr h))))))))))))))))))))))))))))))))))))).trans (hfg580 k j (fun h => hk (Or.elim h (fun h => (Or.inl h)) (fun h => (Or.inr (Or.inl h))))))))) (by omega) (by omega) (by have h91 := (show g688 137 17 = (g 137 17) from ((hfg688 137 17 nj_59).trans ((hfg677 137 17 nj_95).trans ((hfg580 137 17 nj_13).trans rfl)))); omega) (by have h91 := (show g688 137 17 = (g 137 17) from ((hfg688 137 17 nj_59).trans ((hfg677 137 17 nj_95).trans ((hfg580 137 17 nj_13).trans rfl)))); omega) (by have h91 := (show g688 137 17 = (g 137 17) from ((hfg688 137 17 nj_59).trans ((hfg677 137 17 nj_95).trans ((hfg580 137 17 nj_13).trans rfl)))); omega) (by have h91 := (show g688 137 17 = (g 137 17) from ((hfg688 137 17 nj_59).trans ((hfg677 137 17 nj_95).trans ((hfg580 137 17 nj_13).trans rfl)))); omega) (by have h := p2; first | exact mz_TI_d (ti693 h) (by omega) | exact mz_TI_bad (ti693 h) (by omega)) kk693 hE)
