/-! EXACT: the reference (wip/p2/tools/gen50.py) -/
theorem nj_42 {p1 p2 p3 p4 p5 p6 p7 : Prop} : ¬ (((137 : Nat) = 160 ∧ p1) ∨ ((137 : Nat) = 160 ∧ p2) ∨ ((137 : Nat) = 160 ∧ p3) ∨ ((137 : Nat) = 160 ∧ p4) ∨ ((137 : Nat) = 160 ∧ p5) ∨ ((137 : Nat) = 160 ∧ p6) ∨ ((137 : Nat) = 160 ∧ p7) ∨ (137 : Nat) = 161 ∨ (137 : Nat) = 152 ∨ ((137 : Nat) = 137 ∧ (32 : Nat) = 30)) := (fun h => (Or.elim h (fun h => (absurd (show 137 = 160 from (h).1) (by decide))) (fun h => (Or.elim h (fun h => (absurd (show 137 = 160 from (h).1) (by decide))) (fun h => (Or.elim h (fun h => (absurd (show 137 = 160 from (h).1) (by decide))) (fun h => (Or.elim h (fun h => (absurd (show 137 = 160 from (h).1) (by decide))) (fun h => (Or.elim h (fun h => (absurd (show 137 = 160 from (h).1) (by decide))) (fun h => (Or.elim h (fun h => (absurd (show 137 = 160 from (h).1) (by decide))) (fun h => (Or.elim h (fun h => (absurd (show 137 = 160 from (h).1) (by decide))) (fun h => (Or.elim h (fun h => (absurd (show 137 = 161 from h) (by decide))) (fun h => (Or.elim h (fun h => (absurd (show 137 = 152 from h) (by decide))) (fun h => (absurd (show (137 = 137 ∧ 32 = 30) from h) (by decide)))))))))))))))))))))
theorem nj_43 {p1 p2 p3 p4 p5 p6 p7 p8 p9 : Prop} : ¬ ((149 : Nat) = 155 ∨ (149 : Nat) = 169 ∨ ((149 : Nat) = 160 ∧ p1) ∨ ((149 : Nat) = 160 ∧ p2) ∨ ((149 : Nat) = 160 ∧ p3) ∨ ((149 : Nat) = 160 ∧ p4) ∨ ((149 : Nat) = 160 ∧ p5) ∨ ((149 : Nat) = 160 ∧ p6) ∨ ((149 : Nat) = 160 ∧ p7) ∨ (149 : Nat) = 161 ∨ (149 : Nat) = 152 ∨ ((149 : Nat) = 137 ∧ p8) ∨ (149 : Nat) = 153 ∨ (149 : Nat) = 154 ∨ (149 : Nat) = 170 ∨ ((149 : Nat) = 137 ∧ p9)) := (fun h => (Or.elim h (fun h => (absurd (show 149 = 155 from h) (by decide))) (fun h => (Or.elim h (fun h => (absurd (show 149 = 169 from h) (by decide))) (fun h => (Or.elim h (fun h => (absurd (show 149 = 160 from (h).1) (by decide))) (fun h => (Or.elim h (fun h => (absurd (show 149 = 160 from (h).1) (by decide))) (fun h => (Or.elim h (fun h => (absurd (show 149 = 160 from (h).1) (by decide))) (fun h => (Or.elim h (fun h => (absurd (show 149 = 160 from (h).1) (by decide))) (fun h => (Or.elim h (fun h => (absurd (show 149 = 160 from (h).1) (by decide))) (fun h => (Or.elim h (fun h => (absurd (show 149 = 160 from (h).1) (by decide))) (fun h => (Or.elim h (fun h => (absurd (show 149 = 160 from (h).1) (by decide))) (fun h => (Or.elim h (fun h => (absurd (show 149 = 161 from h) (by decide))) (fun h => (Or.elim h (fun h => (absurd (show 149 = 152 from h) (by decide))) (fun h => (Or.elim h (fun h => (absurd (show 149 = 137 from (h).1) (by decide))) (fun h => (Or.elim h (fun h => (absurd (show 149 = 153 from h) (by decide))) (fun h => (Or.elim h (fun h => (absurd (show 149 = 154 from h) (by decide))) (fun h => (Or.elim h (fun h => (absurd (show 149 = 170 from h) (by decide))) (fun h => (absurd (show 149 = 137 from (h).1) (by decide)))))))))))))))))))))))))))))))))
theorem nj_44 {p1 p2 p3 p4 p5 p6 p7 p8 p9 : Prop} : ¬ ((140 : Nat) = 155 ∨ (140 : Nat) = 169 ∨ ((140 : Nat) = 160 ∧ p1) ∨ ((140 : Nat) = 160 ∧ p2) ∨ ((140 : Nat) = 160 ∧ p3) ∨ ((140 : Nat) = 160 ∧ p4) ∨ ((140 : Nat) = 160 ∧ p5) ∨ ((140 : Nat) = 160 ∧ p6) ∨ ((140 : Nat) = 160 ∧ p7) ∨ (140 : Nat) = 161 ∨ (140 : Nat) = 152 ∨ ((140 : Nat) = 137 ∧ p8) ∨ (140 : Nat) = 153 ∨ (140 : Nat) = 154 ∨ (140 : Nat) = 170 ∨ ((140 : Nat) = 137 ∧ p9)) := (fun h => (Or.elim h (fun h => (absurd (show 140 = 155 from h) (by decide))) (fun h => (Or.elim h (fun h => (absurd (show 140 = 169 from h) (by decide))) (fun h => (Or.elim h (fun h => (absurd (show 140 = 160 from (h).1) (by decide))) (fun h => (Or.elim h (fun h => (absurd (show 140 = 160 from (h).1) (by decide))) (fun h => (Or.elim h (fun h => (absurd (show 140 = 160 from (h).1) (by decide))) (fun h => (Or.elim h (fun h => (absurd (show 140 = 160 from (h).1) (by decide))) (fun h => (Or.elim h (fun h => (absurd (show 140 = 160 from (h).1) (by decide))) (fun h => (Or.elim h (fun h => (absurd (show 140 = 160 from (h).1) (by decide))) (fun h => (Or.elim h (fun h => (absurd (show 140 = 160 from (h).1) (by decide))) (fun h => (Or.elim h (fun h => (absurd (show 140 = 161 from h) (by decide))) (fun h => (Or.elim h (fun h => (absurd (show 140 = 152 from h) (by decide))) (fun h => (Or.elim h (fun h => (absurd (show 140 = 137 from (h).1) (by decide))) (fun h => (Or.elim h (fun h => (absurd (show 140 = 153 from h) (by decide))) (fun h => (Or.elim h (fun h => (absurd (show 140 = 154 from h) (by decide))) (fun h => (Or.elim h (fun h => (absurd (show 140 = 170 from h) (by decide))) (fun h => (absurd (show 140 = 137 from (h).1) (by decide)))))))))))))))))))))))))))))))))
theorem nj_45 {p1 p2 p3 p4 p5 p6 p7 : Prop} : ¬ ((137 : Nat) = 169 ∨ ((137 : Nat) = 160 ∧ p1) ∨ ((137 : Nat) = 160 ∧ p2) ∨ ((137 : Nat) = 160 ∧ p3) ∨ ((137 : Nat) = 160 ∧ p4) ∨ ((137 : Nat) = 160 ∧ p5) ∨ ((137 : Nat) = 160 ∧ p6) ∨ ((137 : Nat) = 160 ∧ p7) ∨ (137 : Nat) = 161 ∨ (137 : Nat) = 152 ∨ ((137 : Nat) = 137 ∧ (50 : Nat) = 30) ∨ (137 : Nat) = 153 ∨ (137 : Nat) = 154 ∨ (137 : Nat) = 155) := (fun h => (Or.elim h (fun h => (absurd (show 137 = 169 from h) (by decide))) (fun h => (Or.elim h (fun h => (absurd (show 137 = 160 from (h).1) (by decide))) (fun h => (Or.elim h (fun h => (absurd (show 137 = 160 from (h).1) (by decide))) (fun h => (Or.elim h (fun h => (absurd (show 137 = 160 from (h).1) (by decide))) (fun h => (Or.elim h (fun h => (absurd (show 137 = 160 from (h).1) (by decide))) (fun h => (Or.elim h (fun h => (absurd (show 137 = 160 from (h).1) (by decide))) (fun h => (Or.elim h (fun h => (absurd (show 137 = 160 from (h).1) (by decide))) (fun h => (Or.elim h (fun h => (absurd (show 137 = 160 from (h).1) (by decide))) (fun h => (Or.elim h (fun h => (absurd (show 137 = 161 from h) (by decide))) (fun h => (Or.elim h (fun h => (absurd (show 137 = 152 from h) (by decide))) (fun h => (Or.elim h (fun h => (absurd (show (137 = 137 ∧ 50 = 30) from h) (by decide))) (fun h => (Or.elim h (fun h => (absurd (show 137 = 153 from h) (by decide))) (fun h => (Or.elim h (fun h => (absurd (show 137 = 154 from h) (by decide))) (fun h => (absurd (show 137 = 155 from h) (by decide)))))))))))))))))))))))))))))
theorem nj_46 {p1 p2 p3 p4 p5 p6 p7 p8 : Prop} : ¬ ((149 : Nat) = 155 ∨ ((149 : Nat) = 160 ∧ p1) ∨ ((149 : Nat) = 160 ∧ p2) ∨ ((149 : Nat) = 160 ∧ p3) ∨ ((149 : Nat) = 160 ∧ p4) ∨ ((149 : Nat) = 160 ∧ p5) ∨ ((149 : Nat) = 160 ∧ p6) ∨ ((149 : Nat) = 160 ∧ p7) ∨ (149 : Nat) = 161 ∨ (149 : Nat) = 152 ∨ ((149 : Nat) = 137 ∧ p8) ∨ (149 : Nat) = 171 ∨ (149 : Nat) = 153 ∨ (149 : Nat) = 154) := (fun h => (Or.elim h (fun h => (absurd (show 149 = 155 from h) (by decide))) (fun h => (Or.elim h (fun h => (absurd (show 149 = 160 from (h).1) (by decide))) (fun h => (Or.elim h (fun h => (absurd (show 149 = 160 from (h).1) (by decide))) (fun h => (Or.elim h (fun h => (absurd (show 149 = 160 from (h).1) (by decide))) (fun h => (Or.elim h (fun h => (absurd (show 149 = 160 from (h).1) (by decide))) (fun h => (Or.elim h (fun h => (absurd (show 149 = 160 from (h).1) (by decide))) (fun h => (Or.elim h (fun h => (absurd (show 149 = 160 from (h).1) (by decide))) (fun h => (Or.elim h (fun h => (absurd (show 149 = 160 from (h).1) (by decide))) (fun h => (Or.elim h (fun h => (absurd (show 149 = 161 from h) (by decide))) (fun h => (Or.elim h (fun h => (absurd (show 149 = 152 from h) (by decide))) (fun h => (Or.elim h (fun h => (absurd (show 149 = 137 from (h).1) (by decide))) (fun h => (Or.elim h (fun h => (absurd (show 149 = 171 from h) (by decide))) (fun h => (Or.elim h (fun h => (absurd (show 149 = 153 from h) (by decide))) (fun h => (absurd (show 149 = 154 from h) (by decide)))))))))))))))))))))))))))))
theorem nj_47 {p1 p2 p3 p4 p5 p6 p7 p8 p9 : Prop} : ¬ (((149 : Nat) = 137 ∧ p1) ∨ (149 : Nat) = 155 ∨ (149 : Nat) = 169 ∨ ((149 : Nat) = 160 ∧ p2) ∨ ((149 : Nat) = 160 ∧ p3) ∨ ((149 : Nat) = 160 ∧ p4) ∨ ((149 : Nat) = 160 ∧ p5) ∨ ((149 : Nat) = 160 ∧ p6) ∨ ((149 : Nat) = 160 ∧ p7) ∨ ((149 : Nat) = 160 ∧ p8) ∨ (149 : Nat) = 161 ∨ (149 : Nat) = 152 ∨ ((149 : Nat) = 137 ∧ p9) ∨ (149 : Nat) = 153 ∨ (149 : Nat) = 154 ∨ (149 : Nat) = 170) := (fun h => (Or.elim h (fun h => (absurd (show 149 = 137 from (h).1) (by decide))) (fun h => (Or.elim h (fun h => (absurd (show 149 = 155 from h) (by decide))) (fun h => (Or.elim h (fun h => (absurd (show 149 = 169 from h) (by decide))) (fun h => (Or.elim h (fun h => (absurd (show 149 = 160 from (h).1) (by decide))) (fun h => (Or.elim h (fun h => (absurd (show 149 = 160 from (h).1) (by decide))) (fun h => (Or.elim h (fun h => (absurd (show 149 = 160 from (h).1) (by decide))) (fun h => (Or.elim h (fun h => (absurd (show 149 = 160 from (h).1) (by decide))) (fun h => (Or.elim h (fun h => (absurd (show 149 = 160 from (h).1) (by decide))) (fun h => (Or.elim h (fun h => (absurd (show 149 = 160 from (h).1) (by decide))) (fun h => (Or.elim h (fun h => (absurd (show 149 = 160 from (h).1) (by decide))) (fun h => (Or.elim h (fun h => (absurd (show 149 = 161 from h) (by decide))) (fun h => (Or.elim h (fun h => (absurd (show 149 = 152 from h) (by decide))) (fun h => (Or.elim h (fun h => (absurd (show 149 = 137 from (h).1) (by decide))) (fun h => (Or.elim h (fun h => (absurd (show 149 = 153 from h) (by decide))) (fun h => (Or.elim h (fun h => (absurd (show 149 = 154 from h) (by decide))) (fun h => (absurd (show 149 = 170 from h) (by decide)))))))))))))))))))))))))))))))))
theorem nj_48 {p1 p2 p3 p4 p5 p6 p7 p8 : Prop} : ¬ ((140 : Nat) = 155 ∨ ((140 : Nat) = 160 ∧ p1) ∨ ((140 : Nat) = 160 ∧ p2) ∨ ((140 : Nat) = 160 ∧ p3) ∨ ((140 : Nat) = 160 ∧ p4) ∨ ((140 : Nat) = 160 ∧ p5) ∨ ((140 : Nat) = 160 ∧ p6) ∨ ((140 : Nat) = 160 ∧ p7) ∨ (140 : Nat) = 161 ∨ (140 : Nat) = 152 ∨ ((140 : Nat) = 137 ∧ p8) ∨ (140 : Nat) = 171 ∨ (140 : Nat) = 153 ∨ (140 : Nat) = 154) := (fun h => (Or.elim h (fun h => (absurd (show 140 = 155 from h) (by decide))) (fun h => (Or.elim h (fun h => (absurd (show 140 = 160 from (h).1) (by decide))) (fun h => (Or.elim h (fun h => (absurd (show 140 = 160 from (h).1) (by decide))) (fun h => (Or.elim h (fun h => (absurd (show 140 = 160 from (h).1) (by decide))) (fun h => (Or.elim h (fun h => (absurd (show 140 = 160 from (h).1) (by decide))) (fun h => (Or.elim h (fun h => (absurd (show 140 = 160 from (h).1) (by decide))) (fun h => (Or.elim h (fun h => (absurd (show 140 = 160 from (h).1) (by decide))) (fun h => (Or.elim h (fun h => (absurd (show 140 = 160 from (h).1) (by decide))) (fun h => (Or.elim h (fun h => (absurd (show 140 = 161 from h) (by decide))) (fun h => (Or.elim h (fun h => (absurd (show 140 = 152 from h) (by decide))) (fun h => (Or.elim h (fun h => (absurd (show 140 = 137 from (h).1) (by decide))) (fun h => (Or.elim h (fun h => (absurd (show 140 = 171 from h) (by decide))) (fun h => (Or.elim h (fun h => (absurd (show 140 = 153 from h) (by decide))) (fun h => (absurd (show 140 = 154 from h) (by decide)))))))))))))))))))))))))))))
theorem nj_49 {p1 p2 p3 p4 p5 p6 p7 p8 p9 : Prop} : ¬ (((140 : Nat) = 137 ∧ p1) ∨ (140 : Nat) = 155 ∨ (140 : Nat) = 169 ∨ ((140 : Nat) = 160 ∧ p2) ∨ ((140 : Nat) = 160 ∧ p3) ∨ ((140 : Nat) = 160 ∧ p4) ∨ ((140 : Nat) = 160 ∧ p5) ∨ ((140 : Nat) = 160 ∧ p6) ∨ ((140 : Nat) = 160 ∧ p7) ∨ ((140 : Nat) = 160 ∧ p8) ∨ (140 : Nat) = 161 ∨ (140 : Nat) = 152 ∨ ((140 : Nat) = 137 ∧ p9) ∨ (140 : Nat) = 153 ∨ (140 : Nat) = 154 ∨ (140 : Nat) = 170) := (fun h => (Or.elim h (fun h => (absurd (show 140 = 137 from (h).1) (by decide))) (fun h => (Or.elim h (fun h => (absurd (show 140 = 155 from h) (by decide))) (fun h => (Or.elim h (fun h => (absurd (show 140 = 169 from h) (by decide))) (fun h => (Or.elim h (fun h => (absurd (show 140 = 160 from (h).1) (by decide))) (fun h => (Or.elim h (fun h => (absurd (show 140 = 160 from (h).1) (by decide))) (fun h => (Or.elim h (fun h => (absurd (show 140 = 160 from (h).1) (by decide))) (fun h => (Or.elim h (fun h => (absurd (show 140 = 160 from (h).1) (by decide))) (fun h => (Or.elim h (fun h => (absurd (show 140 = 160 from (h).1) (by decide))) (fun h => (Or.elim h (fun h => (absurd (show 140 = 160 from (h).1) (by decide))) (fun h => (Or.elim h (fun h => (absurd (show 140 = 160 from (h).1) (by decide))) (fun h => (Or.elim h (fun h => (absurd (show 140 = 161 from h) (by decide))) (fun h => (Or.elim h (fun h => (absurd (show 140 = 152 from h) (by decide))) (fun h => (Or.elim h (fun h => (absurd (show 140 = 137 from (h).1) (by decide))) (fun h => (Or.elim h (fun h => (absurd (show 140 = 153 from h) (by decide))) (fun h => (Or.elim h (fun h => (absurd (show 140 = 154 from h) (by decide))) (fun h => (absurd (show 140 = 170 from h) (by decide)))))))))))))))))))))))))))))))))
theorem nj_50 {p1 p2 p3 p4 p5 p6 p7 p8 : Prop} : ¬ (((149 : Nat) = 160 ∧ p1) ∨ ((149 : Nat) = 160 ∧ p2) ∨ ((149 : Nat) = 160 ∧ p3) ∨ ((149 : Nat) = 160 ∧ p4) ∨ ((149 : Nat) = 160 ∧ p5) ∨ ((149 : Nat) = 160 ∧ p6) ∨ ((149 : Nat) = 160 ∧ p7) ∨ (149 : Nat) = 161 ∨ (149 : Nat) = 152 ∨ ((149 : Nat) = 137 ∧ p8) ∨ (149 : Nat) = 153 ∨ (149 : Nat) = 154 ∨ (149 : Nat) = 155) := (fun h => (Or.elim h (fun h => (absurd (show 149 = 160 from (h).1) (by decide))) (fun h => (Or.elim h (fun h => (absurd (show 149 = 160 from (h).1) (by decide))) (fun h => (Or.elim h (fun h => (absurd (show 149 = 160 from (h).1) (by decide))) (fun h => (Or.elim h (fun h => (absurd (show 149 = 160 from (h).1) (by decide))) (fun h => (Or.elim h (fun h => (absurd (show 149 = 160 from (h).1) (by decide))) (fun h => (Or.elim h (fun h => (absurd (show 149 = 160 from (h).1) (by decide))) (fun h => (Or.elim h (fun h => (absurd (show 149 = 160 from (h).1) (by decide))) (fun h => (Or.elim h (fun h => (absurd (show 149 = 161 from h) (by decide))) (fun h => (Or.elim h (fun h => (absurd (show 149 = 152 from h) (by decide))) (fun h => (Or.elim h (fun h => (absurd (show 149 = 137 from (h).1) (by decide))) (fun h => (Or.elim h (fun h => (absurd (show 149 = 153 from h) (by decide))) (fun h => (Or.elim h (fun h => (absurd (show 149 = 154 from h) (by decide))) (fun h => (absurd (show 149 = 155 from h) (by decide)))))))))))))))))))))))))))
theorem nj_51 {p1 p2 p3 p4 p5 p6 p7 p8 : Prop} : ¬ (((140 : Nat) = 160 ∧ p1) ∨ ((140 : Nat) = 160 ∧ p2) ∨ ((140 : Nat) = 160 ∧ p3) ∨ ((140 : Nat) = 160 ∧ p4) ∨ ((140 : Nat) = 160 ∧ p5) ∨ ((140 : Nat) = 160 ∧ p6) ∨ ((140 : Nat) = 160 ∧ p7) ∨ (140 : Nat) = 161 ∨ (140 : Nat) = 152 ∨ ((140 : Nat) = 137 ∧ p8) ∨ (140 : Nat) = 153 ∨ (140 : Nat) = 154 ∨ (140 : Nat) = 155) := (fun h => (Or.elim h (fun h => (absurd (show 140 = 160 from (h).1) (by decide))) (fun h => (Or.elim h (fun h => (absurd (show 140 = 160 from (h).1) (by decide))) (fun h => (Or.elim h (fun h => (absurd (show 140 = 160 from (h).1) (by decide))) (fun h => (Or.elim h (fun h => (absurd (show 140 = 160 from (h).1) (by decide))) (fun h => (Or.elim h (fun h => (absurd (show 140 = 160 from (h).1) (by decide))) (fun h => (Or.elim h (fun h => (absurd (show 140 = 160 from (h).1) (by decide))) (fun h => (Or.elim h (fun h => (absurd (show 140 = 160 from (h).1) (by decide))) (fun h => (Or.elim h (fun h => (absurd (show 140 = 161 from h) (by decide))) (fun h => (Or.elim h (fun h => (absurd (show 140 = 152 from h) (by decide))) (fun h => (Or.elim h (fun h => (absurd (show 140 = 137 from (h).1) (by decide))) (fun h => (Or.elim h (fun h => (absurd (show 140 = 153 from h) (by decide))) (fun h => (Or.elim h (fun h => (absurd (show 140 = 154 from h) (by decide))) (fun h => (absurd (show 140 = 155 from h) (by decide)))))))))))))))))))))))))))
theorem nj_52 {p1 p2 p3 p4 p5 p6 p7 p8 : Prop} : ¬ (((149 : Nat) = 160 ∧ p1) ∨ ((149 : Nat) = 160 ∧ p2) ∨ ((149 : Nat) = 160 ∧ p3) ∨ ((149 : Nat) = 160 ∧ p4) ∨ ((149 : Nat) = 160 ∧ p5) ∨ ((149 : Nat) = 160 ∧ p6) ∨ ((149 : Nat) = 160 ∧ p7) ∨ (149 : Nat) = 161 ∨ (149 : Nat) = 152 ∨ ((149 : Nat) = 137 ∧ p8) ∨ (149 : Nat) = 172 ∨ (149 : Nat) = 153 ∨ (149 : Nat) = 154 ∨ (149 : Nat) = 155) := (fun h => (Or.elim h (fun h => (absurd (show 149 = 160 from (h).1) (by decide))) (fun h => (Or.elim h (fun h => (absurd (show 149 = 160 from (h).1) (by decide))) (fun h => (Or.elim h (fun h => (absurd (show 149 = 160 from (h).1) (by decide))) (fun h => (Or.elim h (fun h => (absurd (show 149 = 160 from (h).1) (by decide))) (fun h => (Or.elim h (fun h => (absurd (show 149 = 160 from (h).1) (by decide))) (fun h => (Or.elim h (fun h => (absurd (show 149 = 160 from (h).1) (by decide))) (fun h => (Or.elim h (fun h => (absurd (show 149 = 160 from (h).1) (by decide))) (fun h => (Or.elim h (fun h => (absurd (show 149 = 161 from h) (by decide))) (fun h => (Or.elim h (fun h => (absurd (show 149 = 152 from h) (by decide))) (fun h => (Or.elim h (fun h => (absurd (show 149 = 137 from (h).1) (by decide))) (fun h => (Or.elim h (fun h => (absurd (show 149 = 172 from h) (by decide))) (fun h => (Or.elim h (fun h => (absurd (show 149 = 153 from h) (by decide))) (fun h => (Or.elim h (fun h => (absurd (show 149 = 154 from h) (by decide))) (fun h => (absurd (show 149 = 155 from h) (by decide)))))))))))))))))))))))))))))
theorem nj_53 {p1 p2 p3 p4 p5 p6 p7 p8 : Prop} : ¬ (((140 : Nat) = 160 ∧ p1) ∨ ((140 : Nat) = 160 ∧ p2) ∨ ((140 : Nat) = 160 ∧ p3) ∨ ((140 : Nat) = 160 ∧ p4) ∨ ((140 : Nat) = 160 ∧ p5) ∨ ((140 : Nat) = 160 ∧ p6) ∨ ((140 : Nat) = 160 ∧ p7) ∨ (140 : Nat) = 161 ∨ (140 : Nat) = 152 ∨ ((140 : Nat) = 137 ∧ p8) ∨ (140 : Nat) = 172 ∨ (140 : Nat) = 153 ∨ (140 : Nat) = 154 ∨ (140 : Nat) = 155) := (fun h => (Or.elim h (fun h => (absurd (show 140 = 160 from (h).1) (by decide))) (fun h => (Or.elim h (fun h => (absurd (show 140 = 160 from (h).1) (by decide))) (fun h => (Or.elim h (fun h => (absurd (show 140 = 160 from (h).1) (by decide))) (fun h => (Or.elim h (fun h => (absurd (show 140 = 160 from (h).1) (by decide))) (fun h => (Or.elim h (fun h => (absurd (show 140 = 160 from (h).1) (by decide))) (fun h => (Or.elim h (fun h => (absurd (show 140 = 160 from (h).1) (by decide))) (fun h => (Or.elim h (fun h => (absurd (show 140 = 160 from (h).1) (by decide))) (fun h => (Or.elim h (fun h => (absurd (show 140 = 161 from h) (by decide))) (fun h => (Or.elim h (fun h => (absurd (show 140 = 152 from h) (by decide))) (fun h => (Or.elim h (fun h => (absurd (show 140 = 137 from (h).1) (by decide))) (fun h => (Or.elim h (fun h => (absurd (show 140 = 172 from h) (by decide))) (fun h => (Or.elim h (fun h => (absurd (show 140 = 153 from h) (by decide))) (fun h => (Or.elim h (fun h => (absurd (show 140 = 154 from h) (by decide))) (fun h => (absurd (show 140 = 155 from h) (by decide)))))))))))))))))))))))))))))
theorem nj_54 {p1 p2 p3 p4 p5 p6 p7 p8 p9 : Prop} : ¬ (((140 : Nat) = 137 ∧ p1) ∨ (140 : Nat) = 154 ∨ (140 : Nat) = 152 ∨ (140 : Nat) = 153 ∨ (140 : Nat) = 155 ∨ ((140 : Nat) = 160 ∧ p2) ∨ ((140 : Nat) = 160 ∧ p3) ∨ ((140 : Nat) = 160 ∧ p4) ∨ ((140 : Nat) = 160 ∧ p5) ∨ ((140 : Nat) = 160 ∧ p6) ∨ ((140 : Nat) = 160 ∧ p7) ∨ ((140 : Nat) = 160 ∧ p8) ∨ (140 : Nat) = 161 ∨ ((140 : Nat) = 137 ∧ p9)) := (fun h => (Or.elim h (fun h => (absurd (show 140 = 137 from (h).1) (by decide))) (fun h => (Or.elim h (fun h => (absurd (show 140 = 154 from h) (by decide))) (fun h => (Or.elim h (fun h => (absurd (show 140 = 152 from h) (by decide))) (fun h => (Or.elim h (fun h => (absurd (show 140 = 153 from h) (by decide))) (fun h => (Or.elim h (fun h => (absurd (show 140 = 155 from h) (by decide))) (fun h => (Or.elim h (fun h => (absurd (show 140 = 160 from (h).1) (by decide))) (fun h => (Or.elim h (fun h => (absurd (show 140 = 160 from (h).1) (by decide))) (fun h => (Or.elim h (fun h => (absurd (show 140 = 160 from (h).1) (by decide))) (fun h => (Or.elim h (fun h => (absurd (show 140 = 160 from (h).1) (by decide))) (fun h => (Or.elim h (fun h => (absurd (show 140 = 160 from (h).1) (by decide))) (fun h => (Or.elim h (fun h => (absurd (show 140 = 160 from (h).1) (by decide))) (fun h => (Or.elim h (fun h => (absurd (show 140 = 160 from (h).1) (by decide))) (fun h => (Or.elim h (fun h => (absurd (show 140 = 161 from h) (by decide))) (fun h => (absurd (show 140 = 137 from (h).1) (by decide)))))))))))))))))))))))))))))
theorem nj_55 : ¬ (((137 : Nat) = 137 ∧ (30 : Nat) = 52) ∨ (137 : Nat) = 154 ∨ (137 : Nat) = 152 ∨ (137 : Nat) = 153 ∨ (137 : Nat) = 155) := (fun h => (Or.elim h (fun h => (absurd (show (137 = 137 ∧ 30 = 52) from h) (by decide))) (fun h => (Or.elim h (fun h => (absurd (show 137 = 154 from h) (by decide))) (fun h => (Or.elim h (fun h => (absurd (show 137 = 152 from h) (by decide))) (fun h => (Or.elim h (fun h => (absurd (show 137 = 153 from h) (by decide))) (fun h => (absurd (show 137 = 155 from h) (by decide)))))))))))
theorem nj_56 {p1 : Prop} : ¬ (((149 : Nat) = 137 ∧ p1) ∨ (149 : Nat) = 154 ∨ (149 : Nat) = 152 ∨ (149 : Nat) = 153 ∨ (149 : Nat) = 155) := (fun h => (Or.elim h (fun h => (absurd (show 149 = 137 from (h).1) (by decide))) (fun h => (Or.elim h (fun h => (absurd (show 149 = 154 from h) (by decide))) (fun h => (Or.elim h (fun h => (absurd (show 149 = 152 from h) (by decide))) (fun h => (Or.elim h (fun h => (absurd (show 149 = 153 from h) (by decide))) (fun h => (absurd (show 149 = 155 from h) (by decide)))))))))))
theorem nj_57 {p1 p2 p3 p4 p5 p6 p7 p8 p9 : Prop} : ¬ (((149 : Nat) = 137 ∧ p1) ∨ (149 : Nat) = 154 ∨ (149 : Nat) = 152 ∨ (149 : Nat) = 153 ∨ (149 : Nat) = 155 ∨ ((149 : Nat) = 160 ∧ p2) ∨ ((149 : Nat) = 160 ∧ p3) ∨ ((149 : Nat) = 160 ∧ p4) ∨ ((149 : Nat) = 160 ∧ p5) ∨ ((149 : Nat) = 160 ∧ p6) ∨ ((149 : Nat) = 160 ∧ p7) ∨ ((149 : Nat) = 160 ∧ p8) ∨ (149 : Nat) = 161 ∨ ((149 : Nat) = 137 ∧ p9)) := (fun h => (Or.elim h (fun h => (absurd (show 149 = 137 from (h).1) (by decide))) (fun h => (Or.elim h (fun h => (absurd (show 149 = 154 from h) (by decide))) (fun h => (Or.elim h (fun h => (absurd (show 149 = 152 from h) (by decide))) (fun h => (Or.elim h (fun h => (absurd (show 149 = 153 from h) (by decide))) (fun h => (Or.elim h (fun h => (absurd (show 149 = 155 from h) (by decide))) (fun h => (Or.elim h (fun h => (absurd (show 149 = 160 from (h).1) (by decide))) (fun h => (Or.elim h (fun h => (absurd (show 149 = 160 from (h).1) (by decide))) (fun h => (Or.elim h (fun h => (absurd (show 149 = 160 from (h).1) (by decide))) (fun h => (Or.elim h (fun h => (absurd (show 149 = 160 from (h).1) (by decide))) (fun h => (Or.elim h (fun h => (absurd (show 149 = 160 from (h).1) (by decide))) (fun h => (Or.elim h (fun h => (absurd (show 149 = 160 from (h).1) (by decide))) (fun h => (Or.elim h (fun h => (absurd (show 149 = 160 from (h).1) (by decide))) (fun h => (Or.elim h (fun h => (absurd (show 149 = 161 from h) (by decide))) (fun h => (absurd (show 149 = 137 from (h).1) (by decide)))))))))))))))))))))))))))))
theorem nj_58 {p1 : Prop} : ¬ (((140 : Nat) = 137 ∧ p1) ∨ (140 : Nat) = 154 ∨ (140 : Nat) = 152 ∨ (140 : Nat) = 153 ∨ (140 : Nat) = 155) := (fun h => (Or.elim h (fun h => (absurd (show 140 = 137 from (h).1) (by decide))) (fun h => (Or.elim h (fun h => (absurd (show 140 = 154 from h) (by decide))) (fun h => (Or.elim h (fun h => (absurd (show 140 = 152 from h) (by decide))) (fun h => (Or.elim h (fun h => (absurd (show 140 = 153 from h) (by decide))) (fun h => (absurd (show 140 = 155 from h) (by decide)))))))))))
theorem fd_12_115 : mm_tab mm_fldT 12 115 = some (12, 44, 0) ∧ mm_tab mm_ftT 12 44 = some 6 := ⟨rfl, rfl⟩
theorem fd_12_118 : mm_tab mm_fldT 12 118 = some (12, 45, 0) ∧ mm_tab mm_ftT 12 45 = some 6 := ⟨rfl, rfl⟩
theorem fd_12_121 : mm_tab mm_fldT 12 121 = some (12, 46, 0) ∧ mm_tab mm_ftT 12 46 = some 6 := ⟨rfl, rfl⟩
theorem fd_12_124 : mm_tab mm_fldT 12 124 = some (12, 47, 0) ∧ mm_tab mm_ftT 12 47 = some 6 := ⟨rfl, rfl⟩
theorem fd_12_127 : mm_tab mm_fldT 12 127 = some (12, 48, 0) ∧ mm_tab mm_ftT 12 48 = some 6 := ⟨rfl, rfl⟩
theorem fd_12_130 : mm_tab mm_fldT 12 130 = some (12, 49, 0) ∧ mm_tab mm_ftT 12 49 = some 6 := ⟨rfl, rfl⟩
theorem fd_12_133 : mm_tab mm_fldT 12 133 = some (12, 51, 0) ∧ mm_tab mm_ftT 12 51 = some 6 := ⟨rfl, rfl⟩
theorem fd_12_136 : mm_tab mm_fldT 12 136 = some (12, 56, 0) ∧ mm_tab mm_ftT 12 56 = some 6 := ⟨rfl, rfl⟩
theorem fd_12_139 : mm_tab mm_fldT 12 139 = some (12, 57, 0) ∧ mm_tab mm_ftT 12 57 = some 6 := ⟨rfl, rfl⟩
theorem fd_12_142 : mm_tab mm_fldT 12 142 = some (12, 58, 0) ∧ mm_tab mm_ftT 12 58 = some 6 := ⟨rfl, rfl⟩
theorem fd_12_145 : mm_tab mm_fldT 12 145 = some (12, 59, 0) ∧ mm_tab mm_ftT 12 59 = some 6 := ⟨rfl, rfl⟩
theorem fd_12_148 : mm_tab mm_fldT 12 148 = some (12, 60, 0) ∧ mm_tab mm_ftT 12 60 = some 6 := ⟨rfl, rfl⟩
theorem fd_12_151 : mm_tab mm_fldT 12 151 = some (12, 61, 0) ∧ mm_tab mm_ftT 12 61 = some 6 := ⟨rfl, rfl⟩
theorem fd_12_316 : mm_tab mm_fldT 12 316 = some (12, 53, 0) ∧ mm_tab mm_ftT 12 53 = some 1 := ⟨rfl, rfl⟩
theorem fd_12_475 : mm_tab mm_fldT 12 475 = some (12, 50, 0) ∧ mm_tab mm_ftT 12 50 = some 0 := ⟨rfl, rfl⟩
theorem fd_12_495 : mm_tab mm_fldT 12 495 = some (12, 52, 0) ∧ mm_tab mm_ftT 12 52 = some 0 := ⟨rfl, rfl⟩
theorem fd_12_505 : mm_tab mm_fldT 12 505 = some (12, 54, 0) ∧ mm_tab mm_ftT 12 54 = some 0 := ⟨rfl, rfl⟩
theorem fd_12_508 : mm_tab mm_fldT 12 508 = some (12, 55, 0) ∧ mm_tab mm_ftT 12 55 = some 0 := ⟨rfl, rfl⟩
theorem mt_12_478 : mm_tab mm_mthT 12 478 = some (1, 279, 0, 0, 12) := rfl
theorem mt_12_481 : mm_tab mm_mthT 12 481 = some (1, 280, 0, 0, 12) := rfl
theorem mt_12_484 : mm_tab mm_mthT 12 484 = some (0, 185, 1, 0, 12) := rfl
theorem mt_12_491 : mm_tab mm_mthT 12 491 = some (1, 285, 2, 0, 12) := rfl
theorem mt_12_499 : mm_tab mm_mthT 12 499 = some (1, 287, 1, 0, 12) := rfl
theorem mt_12_502 : mm_tab mm_mthT 12 502 = some (1, 288, 0, 0, 12) := rfl
theorem mt_12_511 : mm_tab mm_mthT 12 511 = some (0, 290, 2, 0, 12) := rfl
theorem sh_166 (L : Nat) : mm_SH L 166 = (100, 8) := rfl
theorem sh_167 (L : Nat) : mm_SH L 167 = (100, 8) := rfl
theorem sh_168 (L : Nat) : mm_SH L 168 = (100, 8) := rfl
theorem sh_169 (L : Nat) : mm_SH L 169 = (100, 25) := rfl
theorem sh_170 (L : Nat) : mm_SH L 170 = (100, 60) := rfl
theorem sh_171 (L : Nat) : mm_SH L 171 = (100, 6) := rfl
theorem sh_172 (L : Nat) : mm_SH L 172 = (100, 8) := rfl
theorem sh_173 (L : Nat) : mm_SH L 173 = (100, 25) := rfl
theorem sh_174 (L : Nat) : mm_SH L 174 = (100, 1000) := rfl
theorem sh_175 (L : Nat) : mm_SH L 175 = (100, 8) := rfl
theorem sh_176 (L : Nat) : mm_SH L 176 = (100, 8) := rfl
theorem sh_177 (L : Nat) : mm_SH L 177 = (100, 8) := rfl
theorem sh_178 (L : Nat) : mm_SH L 178 = (100, 3) := rfl
theorem bd_137_50 : mz_bd 137 50 = (0, 60) := rfl
theorem bd_137_52 : mz_bd 137 52 = ((-2147483648), 2147483647) := rfl
theorem bd_137_53 : mz_bd 137 53 = (0, 1) := rfl
theorem bd_137_54 : mz_bd 137 54 = (0, 40) := rfl
theorem bd_137_55 : mz_bd 137 55 = (0, 8) := rfl
theorem ba_166 (j : Nat) : mz_bd 166 j = (0, 5) := rfl
theorem ba_167 (j : Nat) : mz_bd 167 j = (0, 20) := rfl
theorem ba_168 (j : Nat) : mz_bd 168 j = ((-2147483648), 2147483647) := rfl
theorem ba_170 (j : Nat) : mz_bd 170 j = (0, 59) := rfl
theorem ba_171 (j : Nat) : mz_bd 171 j = (0, 511) := rfl
theorem ba_172 (j : Nat) : mz_bd 172 j = ((-2147483648), 2147483647) := rfl
theorem ba_175 (j : Nat) : mz_bd 175 j = (0, 5) := rfl
theorem ba_176 (j : Nat) : mz_bd 176 j = (0, 20) := rfl
theorem ba_177 (j : Nat) : mz_bd 177 j = ((-2147483648), 2147483647) := rfl
theorem ba_178 (j : Nat) : mz_bd 178 j = ((-2147483648), 2147483647) := rfl
theorem rf_137_44 (a b : Nat) (c : Option Nat) : mm_HR a b c 137 44 = some 166 := rfl
theorem rf_137_45 (a b : Nat) (c : Option Nat) : mm_HR a b c 137 45 = some 167 := rfl
theorem rf_137_46 (a b : Nat) (c : Option Nat) : mm_HR a b c 137 46 = some 168 := rfl
theorem rf_137_47 (a b : Nat) (c : Option Nat) : mm_HR a b c 137 47 = some 169 := rfl
theorem rf_137_48 (a b : Nat) (c : Option Nat) : mm_HR a b c 137 48 = some 170 := rfl
theorem rf_137_49 (a b : Nat) (c : Option Nat) : mm_HR a b c 137 49 = some 171 := rfl
theorem rf_137_51 (a b : Nat) (c : Option Nat) : mm_HR a b c 137 51 = some 172 := rfl
theorem rf_137_56 (a b : Nat) (c : Option Nat) : mm_HR a b c 137 56 = some 173 := rfl
theorem rf_137_57 (a b : Nat) (c : Option Nat) : mm_HR a b c 137 57 = some 174 := rfl
theorem rf_137_58 (a b : Nat) (c : Option Nat) : mm_HR a b c 137 58 = some 175 := rfl
theorem rf_137_59 (a b : Nat) (c : Option Nat) : mm_HR a b c 137 59 = some 176 := rfl
theorem rf_137_60 (a b : Nat) (c : Option Nat) : mm_HR a b c 137 60 = some 177 := rfl
theorem rf_137_61 (a b : Nat) (c : Option Nat) : mm_HR a b c 137 61 = some 178 := rfl
def fw_X12_see (x : mm_X) (a1 : Int) (a2 : Int) (a3 : Int) : Nat → Nat → Prop := fun k j => (k = 137 ∧ j = 2) ∨ k = 150 ∨ k = 166 ∨ k = 167 ∨ k = 168 ∨ (k = 137 ∧ j = 32)
theorem f_X12_see {d : Nat} (hd : 3 ≤ d) {x : mm_X} (hx : mk_x x) {g : mz_G} (hI : mz_inv g) {a1 : Int} (l_a1 : (-2147483648) ≤ a1) (u_a1 : a1 ≤ 2147483647) {a2 : Int} (l_a2 : (-2147483648) ≤ a2) (u_a2 : a2 ≤ 2147483647) {a3 : Int} (l_a3 : (-2147483648) ≤ a3) (u_a3 : a3 ≤ 2147483647) (p1 : mz_pv g) (p2 : g 137 30 ≤ 999) {Q : (Option Value ⊕ Nat) → mm_H → Prop} (hQ : ∀ (r : Int) (g1 : mz_G), mz_inv g1 → mz_fr (fw_X12_see x a1 a2 a3) g g1 → (-1) ≤ r → r ≤ 8 → (g1 137 30 ≤ 999) → zf_E (zF_X12_see a1 a2 a3 g) ((r, g1)) → Q (.inl (some (.int (Int32.ofInt r)))) (mz_mk g1 x)) : mm_C d 278 [.ref 137, .int (Int32.ofInt a1), .int (Int32.ofInt a2), .int (Int32.ofInt a3)] (mz_mk g x) Q := by
  refine ⟨mmX12_see, [some (.ref 137), some (.int (Int32.ofInt a1)), some (.int (Int32.ofInt a2)), some (.int (Int32.ofInt a3))], rfl, rfl, ?_⟩
  have bz0 := mz_rd hI bd_137_30
  have hpv := p1
  have hE : zf_E (zF_X12_see a1 a2 a3 g) (zF_X12_see a1 a2 a3 g) := zf_rf
  refine mm_g 2 (pc1 := 2) (lo1 := [some (.ref 137), some (.int (Int32.ofInt a1)), some (.int (Int32.ofInt a2)), some (.int (Int32.ofInt a3))]) (st1 := [.int (Int32.ofInt 0), .ref 137]) (H1 := mz_mk g x) rfl ?_
  refine mz_pI rfl fd_12_154 (sc_137 _) hI bd_137_2 (by omega) (by omega) (fun g1 hIg1 hug1 => ?_)
  replace hE := zf_tr hE (zf_lg hug1)
  refine mm_g 2 (pc1 := 7) (lo1 := [some (.ref 137), some (.int (Int32.ofInt a1)), some (.int (Int32.ofInt a2)), some (.int (Int32.ofInt a3))]) (st1 := [.int (Int32.ofInt a1), .ref 137]) (H1 := mz_mk g1 x) rfl ?_
  refine mz_cv rfl mt_12_391 (by decide) (sc_137 _) rfl (Nat.le_of_ble_eq_true rfl) (by omega) (f_X12_isTrunk (by omega) hx hIg1 l_a1 u_a1 (fun v2 l_v2 u_v2 hp3 hp4 hc5 => ⟨_, rfl, ?_⟩))
  show mm_W d mmX12_see 10 [some (.ref 137), some (.int (Int32.ofInt a1)), some (.int (Int32.ofInt a2)), some (.int (Int32.ofInt a3))] [.int (Int32.ofInt v2)] (mz_mk g1 x) Q
  replace hE := zf_t1 hE hc5
  refine mz_if_ne (tgt := 19) rfl rfl (mz_rg l_v2 u_v2) (fun c10_5 => ?_) (fun c10_5 => ?_)
  · skip
    replace hE := zf_in hE c10_5
    refine mm_g 1 (pc1 := 20) (lo1 := [some (.ref 137), some (.int (Int32.ofInt a1)), some (.int (Int32.ofInt a2)), some (.int (Int32.ofInt a3))]) (st1 := [.ref 137]) (H1 := mz_mk g1 x) rfl ?_
    refine mz_gI rfl fd_12_313 (by decide) (sc_137 _) hIg1 bd_137_32 (fun v6 e_v6 l_v6 u_v6 => ?_)
    replace hE := zf_tr hE (zf_le e_v6)
    refine mz_bip rfl bip_8 ?_
    refine mz_ic_eq (tgt := 52) rfl rfl (mz_rg l_v6 u_v6) ⟨by decide, by decide⟩ (fun c25_6 => ?_) (fun c25_6 => ?_)
    · skip
      replace hE := zf_ip hE c25_6
      refine mm_g 2 (pc1 := 54) (lo1 := [some (.ref 137), some (.int (Int32.ofInt a1)), some (.int (Int32.ofInt a2)), some (.int (Int32.ofInt a3))]) (st1 := [.int (Int32.ofInt 2), .ref 137]) (H1 := mz_mk g1 x) rfl ?_
      refine mz_cv rfl mt_12_403 (by decide) (sc_137 _) rfl (Nat.le_of_ble_eq_true rfl) (by omega) (f_X12_refuse (by omega) hx hIg1 (by decide) (by decide) (fun v7 g8 hIg8 hfg8 l_v7 u_v7 hc9 => ⟨_, rfl, ?_⟩))
      show mm_W d mmX12_see 57 [some (.ref 137), some (.int (Int32.ofInt a1)), some (.int (Int32.ofInt a2)), some (.int (Int32.ofInt a3))] [.int (Int32.ofInt v7)] (mz_mk g8 x) Q
      replace hE := zf_t2 hE hc9
      exact mm_rt rfl rfl (hQ _ _ hIg8 (fun k j hk => ((hfg8 k j (fun h => hk (Or.inr (Or.inl h)))).trans (hug1.2 k j (fun h => hk (Or.inl h))))) (by omega) (by omega) (by have h9 := (show g8 137 30 = (g 137 30) from ((hfg8 137 30 (fun h => (absurd (show 137 = 150 from h) (by decide)))).trans ((hug1.2 137 30 (fun h => absurd h.2 (by decide))).trans rfl))); omega) hE)
    · skip
      replace hE := zf_in hE c25_6
      refine mm_g 1 (pc1 := 29) (lo1 := [some (.ref 137), some (.int (Int32.ofInt a1)), some (.int (Int32.ofInt a2)), some (.int (Int32.ofInt a3))]) (st1 := [.int (Int32.ofInt a2)]) (H1 := mz_mk g1 x) rfl ?_
      refine mz_i2l rfl (mz_rg l_a2 u_a2) ?_
      refine mz_lcst (c := 0) rfl rfl ?_
      refine mz_l2w (c := 20) rfl rfl rfl ?_
      refine mz_cs rfl mt_12_157 (by decide) rfl (Nat.le_of_ble_eq_true rfl) (by omega) (f_X12_isIn (by omega) hx hIg1 (by omega) (by omega) (by omega) (by omega) (by omega) (by omega) (fun v10 l_v10 u_v10 hp11 hc12 => ⟨_, rfl, ?_⟩))
      show mm_W d mmX12_see 37 [some (.ref 137), some (.int (Int32.ofInt a1)), some (.int (Int32.ofInt a2)), some (.int (Int32.ofInt a3))] [.int (Int32.ofInt v10)] (mz_mk g1 x) Q
      replace hE := zf_t1 hE hc12
      refine mz_if_eq (tgt := 52) rfl rfl (mz_rg l_v10 u_v10) (fun c37_12 => ?_) (fun c37_12 => ?_)
      · skip
        replace hE := zf_ip hE c37_12
        refine mm_g 2 (pc1 := 54) (lo1 := [some (.ref 137), some (.int (Int32.ofInt a1)), some (.int (Int32.ofInt a2)), some (.int (Int32.ofInt a3))]) (st1 := [.int (Int32.ofInt 2), .ref 137]) (H1 := mz_mk g1 x) rfl ?_
        refine mz_cv rfl mt_12_403 (by decide) (sc_137 _) rfl (Nat.le_of_ble_eq_true rfl) (by omega) (f_X12_refuse (by omega) hx hIg1 (by decide) (by decide) (fun v13 g14 hIg14 hfg14 l_v13 u_v13 hc15 => ⟨_, rfl, ?_⟩))
        show mm_W d mmX12_see 57 [some (.ref 137), some (.int (Int32.ofInt a1)), some (.int (Int32.ofInt a2)), some (.int (Int32.ofInt a3))] [.int (Int32.ofInt v13)] (mz_mk g14 x) Q
        replace hE := zf_t2 hE hc15
        exact mm_rt rfl rfl (hQ _ _ hIg14 (fun k j hk => ((hfg14 k j (fun h => hk (Or.inr (Or.inl h)))).trans (hug1.2 k j (fun h => hk (Or.inl h))))) (by omega) (by omega) (by have h9 := (show g14 137 30 = (g 137 30) from ((hfg14 137 30 (fun h => (absurd (show 137 = 150 from h) (by decide)))).trans ((hug1.2 137 30 (fun h => absurd h.2 (by decide))).trans rfl))); omega) hE)
      · skip
        replace hE := zf_in hE c37_12
        refine mm_g 1 (pc1 := 41) (lo1 := [some (.ref 137), some (.int (Int32.ofInt a1)), some (.int (Int32.ofInt a2)), some (.int (Int32.ofInt a3))]) (st1 := [.int (Int32.ofInt a3)]) (H1 := mz_mk g1 x) rfl ?_
        refine mz_i2l rfl (mz_rg l_a3 u_a3) ?_
        refine mz_lcst (c := 0) rfl rfl ?_
        refine mz_l2w (c := 16) rfl rfl rfl ?_
        refine mz_cs rfl mt_12_157 (by decide) rfl (Nat.le_of_ble_eq_true rfl) (by omega) (f_X12_isIn (by omega) hx hIg1 (by omega) (by omega) (by omega) (by omega) (by omega) (by omega) (fun v16 l_v16 u_v16 hp17 hc18 => ⟨_, rfl, ?_⟩))
        show mm_W d mmX12_see 49 [some (.ref 137), some (.int (Int32.ofInt a1)), some (.int (Int32.ofInt a2)), some (.int (Int32.ofInt a3))] [.int (Int32.ofInt v16)] (mz_mk g1 x) Q
        replace hE := zf_t1 hE hc18
        refine mz_if_ne (tgt := 58) rfl rfl (mz_rg l_v16 u_v16) (fun c49_18 => ?_) (fun c49_18 => ?_)
        · skip
          replace hE := zf_in hE c49_18
          refine mm_g 1 (pc1 := 59) (lo1 := [some (.ref 137), some (.int (Int32.ofInt a1)), some (.int (Int32.ofInt a2)), some (.int (Int32.ofInt a3))]) (st1 := [.ref 137]) (H1 := mz_mk g1 x) rfl ?_
          refine mz_fgR (v := 166) rfl fd_12_115 (by decide) (sc_137 _) (rf_137_44 _ _ _) ?_
          refine mm_g 1 (pc1 := 63) (lo1 := [some (.ref 137), some (.int (Int32.ofInt a1)), some (.int (Int32.ofInt a2)), some (.int (Int32.ofInt a3))]) (st1 := [.ref 137, .ref 166]) (H1 := mz_mk g1 x) rfl ?_
          refine mz_fgI (v := v6) rfl fd_12_313 (by decide) (sc_137 _) e_v6 ?_
          replace hE := zf_tr hE (zf_le e_v6)
          refine mm_g 1 (pc1 := 67) (lo1 := [some (.ref 137), some (.int (Int32.ofInt a1)), some (.int (Int32.ofInt a2)), some (.int (Int32.ofInt a3))]) (st1 := [.int (Int32.ofInt a1), .int (Int32.ofInt v6), .ref 166]) (H1 := mz_mk g1 x) rfl ?_
          refine mz_sI rfl (sh_166 _) (by omega) (by omega) (by decide) hIg1 (ba_166 _) (by omega) (by omega) (fun g19 hIg19 hug19 => ?_)
          replace hE := zf_tr hE (zf_lg hug19)
          refine mm_g 1 (pc1 := 69) (lo1 := [some (.ref 137), some (.int (Int32.ofInt a1)), some (.int (Int32.ofInt a2)), some (.int (Int32.ofInt a3))]) (st1 := [.ref 137]) (H1 := mz_mk g19 x) rfl ?_
          refine mz_fgR (v := 167) rfl fd_12_118 (by decide) (sc_137 _) (rf_137_45 _ _ _) ?_
          refine mm_g 1 (pc1 := 73) (lo1 := [some (.ref 137), some (.int (Int32.ofInt a1)), some (.int (Int32.ofInt a2)), some (.int (Int32.ofInt a3))]) (st1 := [.ref 137, .ref 167]) (H1 := mz_mk g19 x) rfl ?_
          refine mz_fgI (v := v6) rfl fd_12_313 (by decide) (sc_137 _) (show g19 137 32 = v6 from ((hug19.2 137 32 (fun h => absurd h.1 (by decide))).trans e_v6)) ?_
          replace hE := zf_tr hE (zf_le (show g19 137 32 = v6 from ((hug19.2 137 32 (fun h => absurd h.1 (by decide))).trans e_v6)))
          refine mm_g 1 (pc1 := 77) (lo1 := [some (.ref 137), some (.int (Int32.ofInt a1)), some (.int (Int32.ofInt a2)), some (.int (Int32.ofInt a3))]) (st1 := [.int (Int32.ofInt a2), .int (Int32.ofInt v6), .ref 167]) (H1 := mz_mk g19 x) rfl ?_
          refine mz_sI rfl (sh_167 _) (by omega) (by omega) (by decide) hIg19 (ba_167 _) (by omega) (by omega) (fun g20 hIg20 hug20 => ?_)
          replace hE := zf_tr hE (zf_lg hug20)
          refine mm_g 1 (pc1 := 79) (lo1 := [some (.ref 137), some (.int (Int32.ofInt a1)), some (.int (Int32.ofInt a2)), some (.int (Int32.ofInt a3))]) (st1 := [.ref 137]) (H1 := mz_mk g20 x) rfl ?_
          refine mz_fgR (v := 168) rfl fd_12_121 (by decide) (sc_137 _) (rf_137_46 _ _ _) ?_
          refine mm_g 1 (pc1 := 83) (lo1 := [some (.ref 137), some (.int (Int32.ofInt a1)), some (.int (Int32.ofInt a2)), some (.int (Int32.ofInt a3))]) (st1 := [.ref 137, .ref 168]) (H1 := mz_mk g20 x) rfl ?_
          refine mz_fgI (v := v6) rfl fd_12_313 (by decide) (sc_137 _) (show g20 137 32 = v6 from ((hug20.2 137 32 (fun h => absurd h.1 (by decide))).trans ((hug19.2 137 32 (fun h => absurd h.1 (by decide))).trans e_v6))) ?_
          replace hE := zf_tr hE (zf_le (show g20 137 32 = v6 from ((hug20.2 137 32 (fun h => absurd h.1 (by decide))).trans ((hug19.2 137 32 (fun h => absurd h.1 (by decide))).trans e_v6))))
          refine mm_g 1 (pc1 := 87) (lo1 := [some (.ref 137), some (.int (Int32.ofInt a1)), some (.int (Int32.ofInt a2)), some (.int (Int32.ofInt a3))]) (st1 := [.int (Int32.ofInt a3), .int (Int32.ofInt v6), .ref 168]) (H1 := mz_mk g20 x) rfl ?_
          refine mz_sI rfl (sh_168 _) (by omega) (by omega) (by decide) hIg20 (ba_168 _) (by omega) (by omega) (fun g21 hIg21 hug21 => ?_)
          replace hE := zf_tr hE (zf_lg hug21)
          refine mm_g 2 (pc1 := 90) (lo1 := [some (.ref 137), some (.int (Int32.ofInt a1)), some (.int (Int32.ofInt a2)), some (.int (Int32.ofInt a3))]) (st1 := [.ref 137, .ref 137]) (H1 := mz_mk g21 x) rfl ?_
          refine mz_fgI (v := v6) rfl fd_12_313 (by decide) (sc_137 _) (show g21 137 32 = v6 from ((hug21.2 137 32 (fun h => absurd h.1 (by decide))).trans ((hug20.2 137 32 (fun h => absurd h.1 (by decide))).trans ((hug19.2 137 32 (fun h => absurd h.1 (by decide))).trans e_v6)))) ?_
          replace hE := zf_tr hE (zf_le (show g21 137 32 = v6 from ((hug21.2 137 32 (fun h => absurd h.1 (by decide))).trans ((hug20.2 137 32 (fun h => absurd h.1 (by decide))).trans ((hug19.2 137 32 (fun h => absurd h.1 (by decide))).trans e_v6)))))
          refine mm_g 1 (pc1 := 94) (lo1 := [some (.ref 137), some (.int (Int32.ofInt a1)), some (.int (Int32.ofInt a2)), some (.int (Int32.ofInt a3))]) (st1 := [.int (Int32.ofInt 1), .int (Int32.ofInt v6), .ref 137]) (H1 := mz_mk g21 x) rfl ?_
          refine mz_iadd rfl ?_
          refine mz_pI rfl fd_12_313 (sc_137 _) hIg21 bd_137_32 (by omega) (by omega) (fun g22 hIg22 hug22 => ?_)
          replace hE := zf_tr hE (zf_lg hug22)
          refine mm_g 1 (pc1 := 99) (lo1 := [some (.ref 137), some (.int (Int32.ofInt a1)), some (.int (Int32.ofInt a2)), some (.int (Int32.ofInt a3))]) (st1 := [.ref 137]) (H1 := mz_mk g22 x) rfl ?_
          refine mz_fgI (v := (v6 + 1)) rfl fd_12_313 (by decide) (sc_137 _) (show g22 137 32 = (v6 + 1) from hug22.1) ?_
          replace hE := zf_tr hE (zf_le (show g22 137 32 = (v6 + 1) from hug22.1))
          exact mm_rt rfl rfl (hQ _ _ hIg22 (fun k j hk => ((hug22.2 k j (fun h => hk (Or.inr (Or.inr (Or.inr (Or.inr (Or.inr h))))))).trans ((hug21.2 k j (fun h => hk (Or.inr (Or.inr (Or.inr (Or.inr (Or.inl h.1))))))).trans ((hug20.2 k j (fun h => hk (Or.inr (Or.inr (Or.inr (Or.inl h.1)))))).trans ((hug19.2 k j (fun h => hk (Or.inr (Or.inr (Or.inl h.1))))).trans (hug1.2 k j (fun h => hk (Or.inl h)))))))) (by omega) (by omega) (by have h9 := (show g22 137 30 = (g 137 30) from ((hug22.2 137 30 (fun h => absurd h.2 (by decide))).trans ((hug21.2 137 30 (fun h => absurd h.1 (by decide))).trans ((hug20.2 137 30 (fun h => absurd h.1 (by decide))).trans ((hug19.2 137 30 (fun h => absurd h.1 (by decide))).trans ((hug1.2 137 30 (fun h => absurd h.2 (by decide))).trans rfl)))))); omega) hE)
        · skip
          replace hE := zf_ip hE c49_18
          refine mm_g 2 (pc1 := 54) (lo1 := [some (.ref 137), some (.int (Int32.ofInt a1)), some (.int (Int32.ofInt a2)), some (.int (Int32.ofInt a3))]) (st1 := [.int (Int32.ofInt 2), .ref 137]) (H1 := mz_mk g1 x) rfl ?_
          refine mz_cv rfl mt_12_403 (by decide) (sc_137 _) rfl (Nat.le_of_ble_eq_true rfl) (by omega) (f_X12_refuse (by omega) hx hIg1 (by decide) (by decide) (fun v23 g24 hIg24 hfg24 l_v23 u_v23 hc25 => ⟨_, rfl, ?_⟩))
          show mm_W d mmX12_see 57 [some (.ref 137), some (.int (Int32.ofInt a1)), some (.int (Int32.ofInt a2)), some (.int (Int32.ofInt a3))] [.int (Int32.ofInt v23)] (mz_mk g24 x) Q
          replace hE := zf_t2 hE hc25
          exact mm_rt rfl rfl (hQ _ _ hIg24 (fun k j hk => ((hfg24 k j (fun h => hk (Or.inr (Or.inl h)))).trans (hug1.2 k j (fun h => hk (Or.inl h))))) (by omega) (by omega) (by have h9 := (show g24 137 30 = (g 137 30) from ((hfg24 137 30 (fun h => (absurd (show 137 = 150 from h) (by decide)))).trans ((hug1.2 137 30 (fun h => absurd h.2 (by decide))).trans rfl))); omega) hE)
  · skip
    replace hE := zf_ip hE c10_5
    refine mm_g 2 (pc1 := 15) (lo1 := [some (.ref 137), some (.int (Int32.ofInt a1)), some (.int (Int32.ofInt a2)), some (.int (Int32.ofInt a3))]) (st1 := [.int (Int32.ofInt 1), .ref 137]) (H1 := mz_mk g1 x) rfl ?_
    refine mz_cv rfl mt_12_294 (by decide) (sc_137 _) rfl (Nat.le_of_ble_eq_true rfl) (by omega) (f_X12_fail (by omega) hx hIg1 (by decide) (by decide) (fun v26 g27 hIg27 hfg27 l_v26 u_v26 hc28 => ⟨_, rfl, ?_⟩))
    show mm_W d mmX12_see 18 [some (.ref 137), some (.int (Int32.ofInt a1)), some (.int (Int32.ofInt a2)), some (.int (Int32.ofInt a3))] [.int (Int32.ofInt v26)] (mz_mk g27 x) Q
    replace hE := zf_t2 hE hc28
    exact mm_rt rfl rfl (hQ _ _ hIg27 (fun k j hk => ((hfg27 k j (fun h => hk (Or.inl h))).trans (hug1.2 k j (fun h => hk (Or.inl h))))) (by omega) (by omega) (by have h9 := (show g27 137 30 = (g 137 30) from ((hfg27 137 30 (fun h => (absurd (show (137 = 137 ∧ 30 = 2) from h) (by decide)))).trans ((hug1.2 137 30 (fun h => absurd h.2 (by decide))).trans rfl))); omega) hE)
def fl_X12_isAsSeen_42 (x : mm_X) : Nat → Nat → Prop := fun k j => (k = 160 ∧ j = 0) ∨ (k = 160 ∧ j = 1) ∨ (k = 160 ∧ j = 2) ∨ (k = 160 ∧ j = 3) ∨ (k = 160 ∧ j = 4) ∨ (k = 160 ∧ j = 5) ∨ (k = 160 ∧ j = 6) ∨ k = 161 ∨ k = 152 ∨ (k = 137 ∧ j = 30)
def fw_X12_isAsSeen (x : mm_X) : Nat → Nat → Prop := fun k j => k = 169 ∨ (k = 160 ∧ j = 0) ∨ (k = 160 ∧ j = 1) ∨ (k = 160 ∧ j = 2) ∨ (k = 160 ∧ j = 3) ∨ (k = 160 ∧ j = 4) ∨ (k = 160 ∧ j = 5) ∨ (k = 160 ∧ j = 6) ∨ k = 161 ∨ k = 152 ∨ (k = 137 ∧ j = 30) ∨ k = 153 ∨ k = 154 ∨ k = 155
theorem f_X12_isAsSeen {d : Nat} (hd : 16 ≤ d) {x : mm_X} (hx : mk_x x) {g : mz_G} (hI : mz_inv g) (p1 : mz_pv g) (p2 : g 137 30 ≤ 999) {Q : (Option Value ⊕ Nat) → mm_H → Prop} (hQ : ∀ (r : Int) (g1 : mz_G), mz_inv g1 → mz_fr (fw_X12_isAsSeen x) g g1 → 0 ≤ r → r ≤ 1 → (g1 137 30 ≤ 999) → zf_E (zF_X12_isAsSeen g) ((r, g1)) → Q (.inl (some (.int (Int32.ofInt r)))) (mz_mk g1 x)) : mm_C d 279 [.ref 137] (mz_mk g x) Q := by
  refine ⟨mmX12_isAsSeen, [some (.ref 137), none, none, none, none], rfl, rfl, ?_⟩
  have bz0 := mz_rd hI bd_137_30
  have hpv := p1
  have hE : zf_E (zF_X12_isAsSeen g) (zF_X12_isAsSeen g) := zf_rf
  refine mm_g 2 (pc1 := 2) (lo1 := [some (.ref 137), none, none, none, none]) (st1 := [.ref 137, .ref 137]) (H1 := mz_mk g x) rfl ?_
  refine mz_fgR (v := 169) rfl fd_12_124 (by decide) (sc_137 _) (rf_137_47 _ _ _) ?_
  refine mm_g 1 (pc1 := 6) (lo1 := [some (.ref 137), none, none, none, none]) (st1 := [.int (Int32.ofInt 0), .ref 169, .ref 137]) (H1 := mz_mk g x) rfl ?_
  refine mz_cv rfl mt_12_397 (by decide) (sc_137 _) rfl (Nat.le_of_ble_eq_true rfl) (by omega) (f_X12_store (by omega) hx hI rwp_169 (by decide) (by decide) (by omega) (by omega) (by omega) (fun g1 hIg1 hfg1 hc2 => ⟨_, rfl, ?_⟩))
  show mm_W d mmX12_isAsSeen 9 [some (.ref 137), none, none, none, none] [] (mz_mk g1 x) Q
  replace hE := zf_t1 hE hc2
  refine mm_g 4 (pc1 := 13) (lo1 := [some (.ref 137), some (.int (Int32.ofInt 0)), some (.int (Int32.ofInt 0)), none, none]) (st1 := []) (H1 := mz_mk g1 x) rfl ?_
  have L8 : ∀ n7 : Nat, ∀ (v3 : Int) (v4 : Int), (8 - v4).toNat = n7 → 0 ≤ v3 → v3 ≤ 20 → 0 ≤ v4 → v4 ≤ 8 → (∃ fk : Nat, (8 - v4).toNat < fk ∧ zf_E (zF_X12_isAsSeen g) (zL_X12_isAsSeen_13 g1 fk v3 v4)) → mm_W d mmX12_isAsSeen 13 [some (.ref 137), some (.int (Int32.ofInt v3)), some (.int (Int32.ofInt v4)), none, none] [] (mz_mk g1 x) Q := by
    intro n7
    induction n7 using Nat.strongRecOn with
    | ind n7 ih6 =>
    intro v3 v4 hmn7 l_v3 u_v3 l_v4 u_v4 hF
    obtain ⟨fk, fl, hE⟩ := hF
    obtain ⟨fj9, rfl⟩ : ∃ fj, fk = fj + 1 := ⟨fk - 1, by omega⟩
    have fn10 : n7 ≤ fj9 := by omega
    replace hE := zf_tr hE zL_X12_isAsSeen_13_s
    refine mm_g 2 (pc1 := 15) (lo1 := [some (.ref 137), some (.int (Int32.ofInt v3)), some (.int (Int32.ofInt v4)), none, none]) (st1 := [.ref 137, .int (Int32.ofInt v4)]) (H1 := mz_mk g1 x) rfl ?_
    refine mz_gI rfl fd_12_313 (by decide) (sc_137 _) hIg1 bd_137_32 (fun v11 e_v11 l_v11 u_v11 => ?_)
    replace hE := zf_tr hE (zf_le e_v11)
    refine mz_ic_ge (tgt := 38) rfl rfl (mz_rg l_v4 u_v4) (mz_rg l_v11 u_v11) (fun c18_11 => ?_) (fun c18_11 => ?_)
    · skip
      replace hE := zf_nl hE c18_11
      refine mm_g 4 (pc1 := 42) (lo1 := [some (.ref 137), some (.int (Int32.ofInt v3)), some (.int (Int32.ofInt 1)), some (.int (Int32.ofInt 0)), none]) (st1 := []) (H1 := mz_mk g1 x) rfl ?_
      have L18 : ∀ n17 : Nat, ∀ (v12 : Int) (v13 : Int) (o14 : Option Value) (g15 : mz_G), (21 - v13).toNat = n17 → 0 ≤ v12 → v12 ≤ 1 → 0 ≤ v13 → v13 ≤ 21 → mz_nl o14 → mz_inv g15 → mz_fr (fl_X12_isAsSeen_42 x) g1 g15 → (g15 137 30 ≤ 999 + v13) → (∃ fk : Nat, (21 - v13).toNat < fk ∧ zf_E (zF_X12_isAsSeen g) (zL_X12_isAsSeen_42 fk v3 v12 v13 g15)) → mm_W d mmX12_isAsSeen 42 [some (.ref 137), some (.int (Int32.ofInt v3)), some (.int (Int32.ofInt v12)), some (.int (Int32.ofInt v13)), o14] [] (mz_mk g15 x) Q := by
        intro n17
        induction n17 using Nat.strongRecOn with
        | ind n17 ih16 =>
        intro v12 v13 o14 g15 hmn17 l_v12 u_v12 l_v13 u_v13 h_o14 hIg15 hfg15 hv19 hF
        obtain ⟨fk, fl, hE⟩ := hF
        obtain ⟨fj20, rfl⟩ : ∃ fj, fk = fj + 1 := ⟨fk - 1, by omega⟩
        have fn21 : n17 ≤ fj20 := by omega
        replace hE := zf_tr hE zL_X12_isAsSeen_42_s
        have bz_g15_30 := mz_rd hIg15 bd_137_30
        refine mm_g 2 (pc1 := 44) (lo1 := [some (.ref 137), some (.int (Int32.ofInt v3)), some (.int (Int32.ofInt v12)), some (.int (Int32.ofInt v13)), o14]) (st1 := [.int (Int32.ofInt v3), .int (Int32.ofInt v13)]) (H1 := mz_mk g15 x) rfl ?_
        refine mz_ic_gt (tgt := 122) rfl rfl (mz_rg l_v13 u_v13) (mz_rg l_v3 u_v3) (fun c44_21 => ?_) (fun c44_21 => ?_)
        · skip
          replace hE := zf_ip hE c44_21
          refine mm_g 2 (pc1 := 124) (lo1 := [some (.ref 137), some (.int (Int32.ofInt v3)), some (.int (Int32.ofInt v12)), some (.int (Int32.ofInt v13)), o14]) (st1 := [.ref 137, .ref 137]) (H1 := mz_mk g15 x) rfl ?_
          refine mz_fgR (v := 169) rfl fd_12_124 (by decide) (sc_137 _) (rf_137_47 _ _ _) ?_
          refine mm_g 1 (pc1 := 128) (lo1 := [some (.ref 137), some (.int (Int32.ofInt v3)), some (.int (Int32.ofInt v12)), some (.int (Int32.ofInt v13)), o14]) (st1 := [.int (Int32.ofInt 0), .ref 169, .ref 137]) (H1 := mz_mk g15 x) rfl ?_
          refine mz_cv rfl mt_12_421 (by decide) (sc_137 _) rfl (Nat.le_of_ble_eq_true rfl) (by omega) (f_X12_recall (by omega) hx hIg15 rwp_169 (by decide) (by decide) (by omega) (by omega) (fun g22 hIg22 hfg22 hp23 hc24 => ⟨_, rfl, ?_⟩))
          show mm_W d mmX12_isAsSeen 131 [some (.ref 137), some (.int (Int32.ofInt v3)), some (.int (Int32.ofInt v12)), some (.int (Int32.ofInt v13)), o14] [] (mz_mk g22 x) Q
          replace hE := zf_t1 hE hc24
          refine mm_g 1 (pc1 := 132) (lo1 := [some (.ref 137), some (.int (Int32.ofInt v3)), some (.int (Int32.ofInt v12)), some (.int (Int32.ofInt v13)), o14]) (st1 := [.int (Int32.ofInt v12)]) (H1 := mz_mk g22 x) rfl ?_
          exact mz_rtZ rfl (by decide) (by omega) (hQ _ _ hIg22 (fun k j hk => ((hfg22 k j (fun h => hk (Or.elim h (fun h => (Or.inr (Or.inr (Or.inr (Or.inr (Or.inr (Or.inr (Or.inr (Or.inr (Or.inr (Or.inr (Or.inl h)))))))))))) (fun h => (Or.elim h (fun h => (Or.inr (Or.inr (Or.inr (Or.inr (Or.inr (Or.inr (Or.inr (Or.inr (Or.inr (Or.inl h))))))))))) (fun h => (Or.elim h (fun h => (Or.inr (Or.inr (Or.inr (Or.inr (Or.inr (Or.inr (Or.inr (Or.inr (Or.inr (Or.inr (Or.inr (Or.inl h))))))))))))) (fun h => (Or.elim h (fun h => (Or.inr (Or.inr (Or.inr (Or.inr (Or.inr (Or.inr (Or.inr (Or.inr (Or.inr (Or.inr (Or.inr (Or.inr (Or.inl h)))))))))))))) (fun h => (Or.inr (Or.inr (Or.inr (Or.inr (Or.inr (Or.inr (Or.inr (Or.inr (Or.inr (Or.inr (Or.inr (Or.inr (Or.inr h))))))))))))))))))))))).trans ((hfg15 k j (fun h => hk (Or.elim h (fun h => (Or.inr (Or.inl h))) (fun h => (Or.elim h (fun h => (Or.inr (Or.inr (Or.inl h)))) (fun h => (Or.elim h (fun h => (Or.inr (Or.inr (Or.inr (Or.inl h))))) (fun h => (Or.elim h (fun h => (Or.inr (Or.inr (Or.inr (Or.inr (Or.inl h)))))) (fun h => (Or.elim h (fun h => (Or.inr (Or.inr (Or.inr (Or.inr (Or.inr (Or.inl h))))))) (fun h => (Or.elim h (fun h => (Or.inr (Or.inr (Or.inr (Or.inr (Or.inr (Or.inr (Or.inl h)))))))) (fun h => (Or.elim h (fun h => (Or.inr (Or.inr (Or.inr (Or.inr (Or.inr (Or.inr (Or.inr (Or.inl h))))))))) (fun h => (Or.elim h (fun h => (Or.inr (Or.inr (Or.inr (Or.inr (Or.inr (Or.inr (Or.inr (Or.inr (Or.inl h)))))))))) (fun h => (Or.elim h (fun h => (Or.inr (Or.inr (Or.inr (Or.inr (Or.inr (Or.inr (Or.inr (Or.inr (Or.inr (Or.inl h))))))))))) (fun h => (Or.inr (Or.inr (Or.inr (Or.inr (Or.inr (Or.inr (Or.inr (Or.inr (Or.inr (Or.inr (Or.inl h))))))))))))))))))))))))))))))).trans (hfg1 k j (fun h => hk (Or.inl h)))))) (by omega) (by omega) (by omega) hE)
        · skip
          replace hE := zf_nl hE c44_21
          refine mm_g 1 (pc1 := 48) (lo1 := [some (.ref 137), some (.int (Int32.ofInt v3)), some (.int (Int32.ofInt v12)), some (.int (Int32.ofInt v13)), o14]) (st1 := [.int (Int32.ofInt v12)]) (H1 := mz_mk g15 x) rfl ?_
          refine mz_if_eq (tgt := 122) rfl rfl (mz_rg l_v12 u_v12) (fun c48_24 => ?_) (fun c48_24 => ?_)
          · skip
            replace hE := zf_ip hE c48_24
            refine mm_g 2 (pc1 := 124) (lo1 := [some (.ref 137), some (.int (Int32.ofInt v3)), some (.int (Int32.ofInt v12)), some (.int (Int32.ofInt v13)), o14]) (st1 := [.ref 137, .ref 137]) (H1 := mz_mk g15 x) rfl ?_
            refine mz_fgR (v := 169) rfl fd_12_124 (by decide) (sc_137 _) (rf_137_47 _ _ _) ?_
            refine mm_g 1 (pc1 := 128) (lo1 := [some (.ref 137), some (.int (Int32.ofInt v3)), some (.int (Int32.ofInt v12)), some (.int (Int32.ofInt v13)), o14]) (st1 := [.int (Int32.ofInt 0), .ref 169, .ref 137]) (H1 := mz_mk g15 x) rfl ?_
            refine mz_cv rfl mt_12_421 (by decide) (sc_137 _) rfl (Nat.le_of_ble_eq_true rfl) (by omega) (f_X12_recall (by omega) hx hIg15 rwp_169 (by decide) (by decide) (by omega) (by omega) (fun g25 hIg25 hfg25 hp26 hc27 => ⟨_, rfl, ?_⟩))
            show mm_W d mmX12_isAsSeen 131 [some (.ref 137), some (.int (Int32.ofInt v3)), some (.int (Int32.ofInt v12)), some (.int (Int32.ofInt v13)), o14] [] (mz_mk g25 x) Q
            replace hE := zf_t1 hE hc27
            refine mm_g 1 (pc1 := 132) (lo1 := [some (.ref 137), some (.int (Int32.ofInt v3)), some (.int (Int32.ofInt v12)), some (.int (Int32.ofInt v13)), o14]) (st1 := [.int (Int32.ofInt v12)]) (H1 := mz_mk g25 x) rfl ?_
            exact mz_rtZ rfl (by decide) (by omega) (hQ _ _ hIg25 (fun k j hk => ((hfg25 k j (fun h => hk (Or.elim h (fun h => (Or.inr (Or.inr (Or.inr (Or.inr (Or.inr (Or.inr (Or.inr (Or.inr (Or.inr (Or.inr (Or.inl h)))))))))))) (fun h => (Or.elim h (fun h => (Or.inr (Or.inr (Or.inr (Or.inr (Or.inr (Or.inr (Or.inr (Or.inr (Or.inr (Or.inl h))))))))))) (fun h => (Or.elim h (fun h => (Or.inr (Or.inr (Or.inr (Or.inr (Or.inr (Or.inr (Or.inr (Or.inr (Or.inr (Or.inr (Or.inr (Or.inl h))))))))))))) (fun h => (Or.elim h (fun h => (Or.inr (Or.inr (Or.inr (Or.inr (Or.inr (Or.inr (Or.inr (Or.inr (Or.inr (Or.inr (Or.inr (Or.inr (Or.inl h)))))))))))))) (fun h => (Or.inr (Or.inr (Or.inr (Or.inr (Or.inr (Or.inr (Or.inr (Or.inr (Or.inr (Or.inr (Or.inr (Or.inr (Or.inr h))))))))))))))))))))))).trans ((hfg15 k j (fun h => hk (Or.elim h (fun h => (Or.inr (Or.inl h))) (fun h => (Or.elim h (fun h => (Or.inr (Or.inr (Or.inl h)))) (fun h => (Or.elim h (fun h => (Or.inr (Or.inr (Or.inr (Or.inl h))))) (fun h => (Or.elim h (fun h => (Or.inr (Or.inr (Or.inr (Or.inr (Or.inl h)))))) (fun h => (Or.elim h (fun h => (Or.inr (Or.inr (Or.inr (Or.inr (Or.inr (Or.inl h))))))) (fun h => (Or.elim h (fun h => (Or.inr (Or.inr (Or.inr (Or.inr (Or.inr (Or.inr (Or.inl h)))))))) (fun h => (Or.elim h (fun h => (Or.inr (Or.inr (Or.inr (Or.inr (Or.inr (Or.inr (Or.inr (Or.inl h))))))))) (fun h => (Or.elim h (fun h => (Or.inr (Or.inr (Or.inr (Or.inr (Or.inr (Or.inr (Or.inr (Or.inr (Or.inl h)))))))))) (fun h => (Or.elim h (fun h => (Or.inr (Or.inr (Or.inr (Or.inr (Or.inr (Or.inr (Or.inr (Or.inr (Or.inr (Or.inl h))))))))))) (fun h => (Or.inr (Or.inr (Or.inr (Or.inr (Or.inr (Or.inr (Or.inr (Or.inr (Or.inr (Or.inr (Or.inl h))))))))))))))))))))))))))))))).trans (hfg1 k j (fun h => hk (Or.inl h)))))) (by omega) (by omega) (by omega) hE)
          · skip
            replace hE := zf_in hE c48_24
            refine mm_g 2 (pc1 := 54) (lo1 := [some (.ref 137), some (.int (Int32.ofInt v3)), some (.int (Int32.ofInt v12)), some (.int (Int32.ofInt v13)), some (.int (Int32.ofInt 0))]) (st1 := []) (H1 := mz_mk g15 x) rfl ?_
            have hO33 := hE
            have L34 : ∀ n32 : Nat, ∀ (v28 : Int) (v29 : Int), (8 - v29).toNat = n32 → 0 ≤ v28 → v28 ≤ 1 → 0 ≤ v29 → v29 ≤ 8 → (∃ fk : Nat, (8 - v29).toNat < fk ∧ zf_E (zL_X12_isAsSeen_54 g15 3000000000 v3 v12 v13 0) (zL_X12_isAsSeen_54 g15 fk v3 v28 v13 v29)) → mm_W d mmX12_isAsSeen 54 [some (.ref 137), some (.int (Int32.ofInt v3)), some (.int (Int32.ofInt v28)), some (.int (Int32.ofInt v13)), some (.int (Int32.ofInt v29))] [] (mz_mk g15 x) Q := by
              intro n32
              induction n32 using Nat.strongRecOn with
              | ind n32 ih31 =>
              intro v28 v29 hmn32 l_v28 u_v28 l_v29 u_v29 hF
              obtain ⟨fk, fl, hE⟩ := hF
              obtain ⟨fj35, rfl⟩ : ∃ fj, fk = fj + 1 := ⟨fk - 1, by omega⟩
              have fn36 : n32 ≤ fj35 := by omega
              replace hE := zf_tr hE zL_X12_isAsSeen_54_s
              refine mm_g 2 (pc1 := 57) (lo1 := [some (.ref 137), some (.int (Int32.ofInt v3)), some (.int (Int32.ofInt v28)), some (.int (Int32.ofInt v13)), some (.int (Int32.ofInt v29))]) (st1 := [.ref 137, .int (Int32.ofInt v29)]) (H1 := mz_mk g15 x) rfl ?_
              refine mz_fgI (v := v11) rfl fd_12_313 (by decide) (sc_137 _) (show g15 137 32 = v11 from ((hfg15 137 32 nj_42).trans e_v11)) ?_
              replace hE := zf_tr hE (zf_le (show g15 137 32 = v11 from ((hfg15 137 32 nj_42).trans e_v11)))
              refine mz_ic_ge (tgt := 111) rfl rfl (mz_rg l_v29 u_v29) (mz_rg l_v11 u_v11) (fun c60_36 => ?_) (fun c60_36 => ?_)
              · skip
                replace hE := zf_nl hE c60_36
                replace hE := zf_t1 hO33 hE
                refine mm_g 2 (pc1 := 113) (lo1 := [some (.ref 137), some (.int (Int32.ofInt v3)), some (.int (Int32.ofInt v28)), some (.int (Int32.ofInt v13)), some (.int (Int32.ofInt v29))]) (st1 := [.int (Int32.ofInt 1), .ref 137]) (H1 := mz_mk g15 x) rfl ?_
                refine mz_cv rfl mt_12_409 (by decide) (sc_137 _) rfl (Nat.le_of_ble_eq_true rfl) (by omega) (f_X12_goOn (by omega) hx hIg15 (by decide) (by decide) (mz_pv_fr hpv (fun _j => ((hfg15 149 _j nj_23).trans ((hfg1 149 _j (fun h => (absurd (show 149 = 169 from h) (by decide)))).trans rfl))) ((hfg15 140 3 nj_24).trans ((hfg1 140 3 (fun h => (absurd (show 140 = 169 from h) (by decide)))).trans rfl))) (by omega) (fun g38 hIg38 hfg38 hp39 hc40 => ⟨_, rfl, ?_⟩))
                show mm_W d mmX12_isAsSeen 116 [some (.ref 137), some (.int (Int32.ofInt v3)), some (.int (Int32.ofInt v28)), some (.int (Int32.ofInt v13)), some (.int (Int32.ofInt v29))] [] (mz_mk g38 x) Q
                replace hE := zf_t1 hE hc40
                refine mz_iincR (v := v13) (lo2 := [some (.ref 137), some (.int (Int32.ofInt v3)), some (.int (Int32.ofInt v28)), some (.int (Int32.ofInt (v13 + 1))), some (.int (Int32.ofInt v29))]) rfl rfl rfl (Nat.le_of_ble_eq_true rfl) rfl ?_
                refine mz_gt (tgt := 42) rfl rfl ?_
                exact ih16 ((21 - (v13 + 1)).toNat) (by omega) v28 (v13 + 1) (some (.int (Int32.ofInt v29))) g38 rfl (by omega) (by omega) (by omega) (by omega) (mz_nl_i _) hIg38 (fun k j hk => ((hfg38 k j (fun h => hk (Or.elim h (fun h => (Or.inl h)) (fun h => (Or.elim h (fun h => (Or.inr (Or.inl h))) (fun h => (Or.elim h (fun h => (Or.inr (Or.inr (Or.inl h)))) (fun h => (Or.elim h (fun h => (Or.inr (Or.inr (Or.inr (Or.inl h))))) (fun h => (Or.elim h (fun h => (Or.inr (Or.inr (Or.inr (Or.inr (Or.inl h)))))) (fun h => (Or.elim h (fun h => (Or.inr (Or.inr (Or.inr (Or.inr (Or.inr (Or.inl h))))))) (fun h => (Or.elim h (fun h => (Or.inr (Or.inr (Or.inr (Or.inr (Or.inr (Or.inr (Or.inl h)))))))) (fun h => (Or.elim h (fun h => (Or.inr (Or.inr (Or.inr (Or.inr (Or.inr (Or.inr (Or.inr (Or.inl h))))))))) (fun h => (Or.elim h (fun h => (Or.inr (Or.inr (Or.inr (Or.inr (Or.inr (Or.inr (Or.inr (Or.inr (Or.inl h)))))))))) (fun h => (Or.inr (Or.inr (Or.inr (Or.inr (Or.inr (Or.inr (Or.inr (Or.inr (Or.inr h))))))))))))))))))))))))))))).trans (hfg15 k j (fun h => hk (Or.elim h (fun h => (Or.inl h)) (fun h => (Or.elim h (fun h => (Or.inr (Or.inl h))) (fun h => (Or.elim h (fun h => (Or.inr (Or.inr (Or.inl h)))) (fun h => (Or.elim h (fun h => (Or.inr (Or.inr (Or.inr (Or.inl h))))) (fun h => (Or.elim h (fun h => (Or.inr (Or.inr (Or.inr (Or.inr (Or.inl h)))))) (fun h => (Or.elim h (fun h => (Or.inr (Or.inr (Or.inr (Or.inr (Or.inr (Or.inl h))))))) (fun h => (Or.elim h (fun h => (Or.inr (Or.inr (Or.inr (Or.inr (Or.inr (Or.inr (Or.inl h)))))))) (fun h => (Or.elim h (fun h => (Or.inr (Or.inr (Or.inr (Or.inr (Or.inr (Or.inr (Or.inr (Or.inl h))))))))) (fun h => (Or.elim h (fun h => (Or.inr (Or.inr (Or.inr (Or.inr (Or.inr (Or.inr (Or.inr (Or.inr (Or.inl h)))))))))) (fun h => (Or.inr (Or.inr (Or.inr (Or.inr (Or.inr (Or.inr (Or.inr (Or.inr (Or.inr h))))))))))))))))))))))))))))))) (by omega) ⟨fj20, Nat.lt_of_lt_of_le (show ((21 - (v13 + 1)).toNat) < n17 from (by omega)) fn21, hE⟩
              · skip
                replace hE := zf_ip hE c60_36
                refine mm_g 1 (pc1 := 64) (lo1 := [some (.ref 137), some (.int (Int32.ofInt v3)), some (.int (Int32.ofInt v28)), some (.int (Int32.ofInt v13)), some (.int (Int32.ofInt v29))]) (st1 := [.int (Int32.ofInt v28)]) (H1 := mz_mk g15 x) rfl ?_
                refine mz_if_eq (tgt := 103) rfl rfl (mz_rg l_v28 u_v28) (fun c64_40 => ?_) (fun c64_40 => ?_)
                · skip
                  replace hE := zf_ip hE c64_40
                  refine mm_g 2 (pc1 := 105) (lo1 := [some (.ref 137), some (.int (Int32.ofInt v3)), some (.int (Int32.ofInt 0)), some (.int (Int32.ofInt v13)), some (.int (Int32.ofInt v29))]) (st1 := []) (H1 := mz_mk g15 x) rfl ?_
                  refine mz_iincR (v := v29) (lo2 := [some (.ref 137), some (.int (Int32.ofInt v3)), some (.int (Int32.ofInt 0)), some (.int (Int32.ofInt v13)), some (.int (Int32.ofInt (v29 + 1)))]) rfl rfl rfl (Nat.le_of_ble_eq_true rfl) rfl ?_
                  refine mz_gt (tgt := 54) rfl rfl ?_
                  exact ih31 ((8 - (v29 + 1)).toNat) (by omega) 0 (v29 + 1) rfl (by decide) (by decide) (by omega) (by omega) ⟨fj35, Nat.lt_of_lt_of_le (show ((8 - (v29 + 1)).toNat) < n32 from (by omega)) fn36, hE⟩
                · skip
                  replace hE := zf_in hE c64_40
                  refine mm_g 1 (pc1 := 68) (lo1 := [some (.ref 137), some (.int (Int32.ofInt v3)), some (.int (Int32.ofInt v28)), some (.int (Int32.ofInt v13)), some (.int (Int32.ofInt v29))]) (st1 := [.ref 137]) (H1 := mz_mk g15 x) rfl ?_
                  refine mz_fgR (v := 167) rfl fd_12_118 (by decide) (sc_137 _) (rf_137_45 _ _ _) ?_
                  refine mm_g 1 (pc1 := 73) (lo1 := [some (.ref 137), some (.int (Int32.ofInt v3)), some (.int (Int32.ofInt v28)), some (.int (Int32.ofInt v13)), some (.int (Int32.ofInt v29))]) (st1 := [.int (Int32.ofInt v29), .ref 167]) (H1 := mz_mk g15 x) rfl ?_
                  refine mz_aI rfl (sh_167 _) (by omega) (by omega) (by decide) hIg15 (ba_167 _) (fun v41 e_v41 l_v41 u_v41 => ?_)
                  replace hE := zf_tr hE (zf_le e_v41)
                  refine mm_g 1 (pc1 := 75) (lo1 := [some (.ref 137), some (.int (Int32.ofInt v3)), some (.int (Int32.ofInt v28)), some (.int (Int32.ofInt v13)), some (.int (Int32.ofInt v29))]) (st1 := [.int (Int32.ofInt v13), .int (Int32.ofInt v41)]) (H1 := mz_mk g15 x) rfl ?_
                  refine mz_ic_ne (tgt := 99) rfl rfl (mz_rg l_v41 u_v41) (mz_rg l_v13 u_v13) (fun c75_41 => ?_) (fun c75_41 => ?_)
                  · skip
                    replace hE := zf_in hE c75_41
                    refine mm_g 1 (pc1 := 100) (lo1 := [some (.ref 137), some (.int (Int32.ofInt v3)), some (.int (Int32.ofInt v28)), some (.int (Int32.ofInt v13)), some (.int (Int32.ofInt v29))]) (st1 := [.int (Int32.ofInt 1)]) (H1 := mz_mk g15 x) rfl ?_
                    refine mz_gt (tgt := 104) rfl rfl ?_
                    refine mm_g 1 (pc1 := 105) (lo1 := [some (.ref 137), some (.int (Int32.ofInt v3)), some (.int (Int32.ofInt 1)), some (.int (Int32.ofInt v13)), some (.int (Int32.ofInt v29))]) (st1 := []) (H1 := mz_mk g15 x) rfl ?_
                    refine mz_iincR (v := v29) (lo2 := [some (.ref 137), some (.int (Int32.ofInt v3)), some (.int (Int32.ofInt 1)), some (.int (Int32.ofInt v13)), some (.int (Int32.ofInt (v29 + 1)))]) rfl rfl rfl (Nat.le_of_ble_eq_true rfl) rfl ?_
                    refine mz_gt (tgt := 54) rfl rfl ?_
                    exact ih31 ((8 - (v29 + 1)).toNat) (by omega) 1 (v29 + 1) rfl (by decide) (by decide) (by omega) (by omega) ⟨fj35, Nat.lt_of_lt_of_le (show ((8 - (v29 + 1)).toNat) < n32 from (by omega)) fn36, hE⟩
                  · skip
                    replace hE := zf_ip hE c75_41
                    refine mm_g 2 (pc1 := 80) (lo1 := [some (.ref 137), some (.int (Int32.ofInt v3)), some (.int (Int32.ofInt v28)), some (.int (Int32.ofInt v13)), some (.int (Int32.ofInt v29))]) (st1 := [.ref 137, .ref 137]) (H1 := mz_mk g15 x) rfl ?_
                    refine mz_fgR (v := 166) rfl fd_12_115 (by decide) (sc_137 _) (rf_137_44 _ _ _) ?_
                    refine mm_g 1 (pc1 := 85) (lo1 := [some (.ref 137), some (.int (Int32.ofInt v3)), some (.int (Int32.ofInt v28)), some (.int (Int32.ofInt v13)), some (.int (Int32.ofInt v29))]) (st1 := [.int (Int32.ofInt v29), .ref 166, .ref 137]) (H1 := mz_mk g15 x) rfl ?_
                    refine mz_aI rfl (sh_166 _) (by omega) (by omega) (by decide) hIg15 (ba_166 _) (fun v42 e_v42 l_v42 u_v42 => ?_)
                    replace hE := zf_tr hE (zf_le e_v42)
                    refine mz_cv rfl mt_12_368 (by decide) (sc_137 _) rfl (Nat.le_of_ble_eq_true rfl) (by omega) (f_X12_blendSize (by omega) hx hIg15 l_v42 u_v42 (fun v43 l_v43 u_v43 hc44 => ⟨_, rfl, ?_⟩))
                    show mm_W d mmX12_isAsSeen 89 [some (.ref 137), some (.int (Int32.ofInt v3)), some (.int (Int32.ofInt v28)), some (.int (Int32.ofInt v13)), some (.int (Int32.ofInt v29))] [.int (Int32.ofInt v43)] (mz_mk g15 x) Q
                    replace hE := zf_t1 hE hc44
                    refine mm_g 1 (pc1 := 90) (lo1 := [some (.ref 137), some (.int (Int32.ofInt v3)), some (.int (Int32.ofInt v28)), some (.int (Int32.ofInt v13)), some (.int (Int32.ofInt v29))]) (st1 := [.ref 137, .int (Int32.ofInt v43)]) (H1 := mz_mk g15 x) rfl ?_
                    refine mz_fgR (v := 168) rfl fd_12_121 (by decide) (sc_137 _) (rf_137_46 _ _ _) ?_
                    refine mm_g 1 (pc1 := 95) (lo1 := [some (.ref 137), some (.int (Int32.ofInt v3)), some (.int (Int32.ofInt v28)), some (.int (Int32.ofInt v13)), some (.int (Int32.ofInt v29))]) (st1 := [.int (Int32.ofInt v29), .ref 168, .int (Int32.ofInt v43)]) (H1 := mz_mk g15 x) rfl ?_
                    refine mz_aI rfl (sh_168 _) (by omega) (by omega) (by decide) hIg15 (ba_168 _) (fun v45 e_v45 l_v45 u_v45 => ?_)
                    replace hE := zf_tr hE (zf_le e_v45)
                    refine mz_ic_ne (tgt := 103) rfl rfl (mz_rg l_v43 u_v43) (mz_rg l_v45 u_v45) (fun c96_45 => ?_) (fun c96_45 => ?_)
                    · skip
                      replace hE := zf_in hE c96_45
                      refine mm_g 2 (pc1 := 105) (lo1 := [some (.ref 137), some (.int (Int32.ofInt v3)), some (.int (Int32.ofInt 0)), some (.int (Int32.ofInt v13)), some (.int (Int32.ofInt v29))]) (st1 := []) (H1 := mz_mk g15 x) rfl ?_
                      refine mz_iincR (v := v29) (lo2 := [some (.ref 137), some (.int (Int32.ofInt v3)), some (.int (Int32.ofInt 0)), some (.int (Int32.ofInt v13)), some (.int (Int32.ofInt (v29 + 1)))]) rfl rfl rfl (Nat.le_of_ble_eq_true rfl) rfl ?_
                      refine mz_gt (tgt := 54) rfl rfl ?_
                      exact ih31 ((8 - (v29 + 1)).toNat) (by omega) 0 (v29 + 1) rfl (by decide) (by decide) (by omega) (by omega) ⟨fj35, Nat.lt_of_lt_of_le (show ((8 - (v29 + 1)).toNat) < n32 from (by omega)) fn36, hE⟩
                    · skip
                      replace hE := zf_ip hE c96_45
                      refine mm_g 1 (pc1 := 100) (lo1 := [some (.ref 137), some (.int (Int32.ofInt v3)), some (.int (Int32.ofInt v28)), some (.int (Int32.ofInt v13)), some (.int (Int32.ofInt v29))]) (st1 := [.int (Int32.ofInt 1)]) (H1 := mz_mk g15 x) rfl ?_
                      refine mz_gt (tgt := 104) rfl rfl ?_
                      refine mm_g 1 (pc1 := 105) (lo1 := [some (.ref 137), some (.int (Int32.ofInt v3)), some (.int (Int32.ofInt 1)), some (.int (Int32.ofInt v13)), some (.int (Int32.ofInt v29))]) (st1 := []) (H1 := mz_mk g15 x) rfl ?_
                      refine mz_iincR (v := v29) (lo2 := [some (.ref 137), some (.int (Int32.ofInt v3)), some (.int (Int32.ofInt 1)), some (.int (Int32.ofInt v13)), some (.int (Int32.ofInt (v29 + 1)))]) rfl rfl rfl (Nat.le_of_ble_eq_true rfl) rfl ?_
                      refine mz_gt (tgt := 54) rfl rfl ?_
                      exact ih31 ((8 - (v29 + 1)).toNat) (by omega) 1 (v29 + 1) rfl (by decide) (by decide) (by omega) (by omega) ⟨fj35, Nat.lt_of_lt_of_le (show ((8 - (v29 + 1)).toNat) < n32 from (by omega)) fn36, hE⟩
            exact L34 _ v12 0 rfl (by omega) (by omega) (by decide) (by decide) ⟨3000000000, by omega, zf_rf⟩
      exact L18 _ 1 0 none g1 rfl (by decide) (by decide) (by decide) (by decide) mz_nl_n hIg1 (fun _ _ _ => rfl) (by have h9 := (show g1 137 30 = (g 137 30) from ((hfg1 137 30 (fun h => (absurd (show 137 = 169 from h) (by decide)))).trans rfl)); omega) ⟨3000000000, by omega, hE⟩
    · skip
      replace hE := zf_ip hE c18_11
      refine mm_g 2 (pc1 := 23) (lo1 := [some (.ref 137), some (.int (Int32.ofInt v3)), some (.int (Int32.ofInt v4)), none, none]) (st1 := [.ref 137, .int (Int32.ofInt v3)]) (H1 := mz_mk g1 x) rfl ?_
      refine mz_fgR (v := 167) rfl fd_12_118 (by decide) (sc_137 _) (rf_137_45 _ _ _) ?_
      refine mm_g 1 (pc1 := 27) (lo1 := [some (.ref 137), some (.int (Int32.ofInt v3)), some (.int (Int32.ofInt v4)), none, none]) (st1 := [.int (Int32.ofInt v4), .ref 167, .int (Int32.ofInt v3)]) (H1 := mz_mk g1 x) rfl ?_
      refine mz_aI rfl (sh_167 _) (by omega) (by omega) (by decide) hIg1 (ba_167 _) (fun v46 e_v46 l_v46 u_v46 => ?_)
      replace hE := zf_tr hE (zf_le e_v46)
      refine mz_mx rfl mt_12_329 (Nat.le_of_ble_eq_true rfl) (by omega) (mz_rg l_v3 u_v3) (mz_rg l_v46 u_v46) (fun v47 e_v47 => ?_)
      have l_v47 : 0 ≤ v47 := by omega
      have u_v47 : v47 ≤ 20 := by omega
      replace hE := zf_tr hE (zf_le e_v47.symm)
      refine mm_g 1 (pc1 := 32) (lo1 := [some (.ref 137), some (.int (Int32.ofInt v47)), some (.int (Int32.ofInt v4)), none, none]) (st1 := []) (H1 := mz_mk g1 x) rfl ?_
      refine mz_iincR (v := v4) (lo2 := [some (.ref 137), some (.int (Int32.ofInt v47)), some (.int (Int32.ofInt (v4 + 1))), none, none]) rfl rfl rfl (Nat.le_of_ble_eq_true rfl) rfl ?_
      refine mz_gt (tgt := 13) rfl rfl ?_
      exact ih6 ((8 - (v4 + 1)).toNat) (by omega) v47 (v4 + 1) rfl (by omega) (by omega) (by omega) (by omega) ⟨fj9, Nat.lt_of_lt_of_le (show ((8 - (v4 + 1)).toNat) < n7 from (by omega)) fn10, hE⟩
  exact L8 _ 0 0 rfl (by decide) (by decide) (by decide) (by decide) ⟨3000000000, by omega, hE⟩
def fl_X12_tellFits_7 (x : mm_X) : Nat → Nat → Prop := fun k j => k = 155 ∨ k = 169 ∨ (k = 160 ∧ j = 0) ∨ (k = 160 ∧ j = 1) ∨ (k = 160 ∧ j = 2) ∨ (k = 160 ∧ j = 3) ∨ (k = 160 ∧ j = 4) ∨ (k = 160 ∧ j = 5) ∨ (k = 160 ∧ j = 6) ∨ k = 161 ∨ k = 152 ∨ (k = 137 ∧ j = 30) ∨ k = 153 ∨ k = 154 ∨ k = 170 ∨ (k = 137 ∧ j = 50)
def fl_X12_tellFits_26 (x : mm_X) : Nat → Nat → Prop := fun k j => k = 155 ∨ k = 169 ∨ (k = 160 ∧ j = 0) ∨ (k = 160 ∧ j = 1) ∨ (k = 160 ∧ j = 2) ∨ (k = 160 ∧ j = 3) ∨ (k = 160 ∧ j = 4) ∨ (k = 160 ∧ j = 5) ∨ (k = 160 ∧ j = 6) ∨ k = 161 ∨ k = 152 ∨ (k = 137 ∧ j = 30) ∨ k = 153 ∨ k = 154 ∨ k = 170 ∨ (k = 137 ∧ j = 50)
def fw_X12_tellFits (x : mm_X) : Nat → Nat → Prop := fun k j => (k = 137 ∧ j = 50) ∨ k = 155 ∨ k = 169 ∨ (k = 160 ∧ j = 0) ∨ (k = 160 ∧ j = 1) ∨ (k = 160 ∧ j = 2) ∨ (k = 160 ∧ j = 3) ∨ (k = 160 ∧ j = 4) ∨ (k = 160 ∧ j = 5) ∨ (k = 160 ∧ j = 6) ∨ k = 161 ∨ k = 152 ∨ (k = 137 ∧ j = 30) ∨ k = 153 ∨ k = 154 ∨ k = 170
theorem f_X12_tellFits {d : Nat} (hd : 17 ≤ d) {x : mm_X} (hx : mk_x x) {g : mz_G} (hI : mz_inv g) (p1 : mz_pv g) (p2 : g 137 30 ≤ 999) {Q : (Option Value ⊕ Nat) → mm_H → Prop} (hQ : ∀ (g1 : mz_G), mz_inv g1 → mz_fr (fw_X12_tellFits x) g g1 → (g1 137 30 ≤ 999) → zf_E (zF_X12_tellFits g) (g1) → Q (.inl none) (mz_mk g1 x)) : mm_C d 280 [.ref 137] (mz_mk g x) Q := by
  refine ⟨mmX12_tellFits, [some (.ref 137), none, none, none], rfl, rfl, ?_⟩
  have bz0 := mz_rd hI bd_137_30
  have hpv := p1
  have hE : zf_E (zF_X12_tellFits g) (zF_X12_tellFits g) := zf_rf
  refine mm_g 2 (pc1 := 2) (lo1 := [some (.ref 137), none, none, none]) (st1 := [.int (Int32.ofInt 0), .ref 137]) (H1 := mz_mk g x) rfl ?_
  refine mz_pI rfl fd_12_475 (sc_137 _) hI bd_137_50 (by omega) (by omega) (fun g1 hIg1 hug1 => ?_)
  replace hE := zf_tr hE (zf_lg hug1)
  refine mm_g 2 (pc1 := 7) (lo1 := [some (.ref 137), some (.int (Int32.ofInt 0)), none, none]) (st1 := []) (H1 := mz_mk g1 x) rfl ?_
  have L8 : ∀ n7 : Nat, ∀ (v2 : Int) (o3 : Option Value) (o4 : Option Value) (g5 : mz_G), (6 - v2).toNat = n7 → 0 ≤ v2 → v2 ≤ 6 → mz_nl o3 → mz_nl o4 → mz_inv g5 → mz_fr (fl_X12_tellFits_7 x) g1 g5 → (g5 137 30 ≤ 999) → (g5 137 50 ≤ 0 + 10 * v2) → (∃ fk : Nat, (6 - v2).toNat < fk ∧ zf_E (zF_X12_tellFits g) (zL_X12_tellFits_7 fk v2 g5)) → mm_W d mmX12_tellFits 7 [some (.ref 137), some (.int (Int32.ofInt v2)), o3, o4] [] (mz_mk g5 x) Q := by
    intro n7
    induction n7 using Nat.strongRecOn with
    | ind n7 ih6 =>
    intro v2 o3 o4 g5 hmn7 l_v2 u_v2 h_o3 h_o4 hIg5 hfg5 hv9 hv10 hF
    obtain ⟨fk, fl, hE⟩ := hF
    obtain ⟨fj11, rfl⟩ : ∃ fj, fk = fj + 1 := ⟨fk - 1, by omega⟩
    have fn12 : n7 ≤ fj11 := by omega
    replace hE := zf_tr hE zL_X12_tellFits_7_s
    have bz_g5_30 := mz_rd hIg5 bd_137_30
    have bz_g5_50 := mz_rd hIg5 bd_137_50
    refine mm_g 2 (pc1 := 9) (lo1 := [some (.ref 137), some (.int (Int32.ofInt v2)), o3, o4]) (st1 := [.ref 137, .int (Int32.ofInt v2)]) (H1 := mz_mk g5 x) rfl ?_
    refine mz_fgR (v := 140) rfl fd_12_36 (by decide) (sc_137 _) (rf_137_3 _ _ _) ?_
    refine mm_g 1 (pc1 := 13) (lo1 := [some (.ref 137), some (.int (Int32.ofInt v2)), o3, o4]) (st1 := [.int (Int32.ofInt 1), .ref 140, .int (Int32.ofInt v2)]) (H1 := mz_mk g5 x) rfl ?_
    refine mz_aI rfl (sh_140 _) (by omega) (by omega) (by decide) hIg5 bt_140_1 (fun v13 e_v13 l_v13 u_v13 => ?_)
    have e_v13 : g5 140 1 = v13 := e_v13
    replace hE := zf_tr hE (zf_le e_v13)
    refine mz_ic_ge (tgt := 98) rfl rfl (mz_rg l_v2 u_v2) (mz_rg l_v13 u_v13) (fun c14_13 => ?_) (fun c14_13 => ?_)
    · skip
      replace hE := zf_nl hE c14_13
      exact mm_rt rfl rfl (hQ _ hIg5 (fun k j hk => ((hfg5 k j (fun h => hk (Or.elim h (fun h => (Or.inr (Or.inl h))) (fun h => (Or.elim h (fun h => (Or.inr (Or.inr (Or.inl h)))) (fun h => (Or.elim h (fun h => (Or.inr (Or.inr (Or.inr (Or.inl h))))) (fun h => (Or.elim h (fun h => (Or.inr (Or.inr (Or.inr (Or.inr (Or.inl h)))))) (fun h => (Or.elim h (fun h => (Or.inr (Or.inr (Or.inr (Or.inr (Or.inr (Or.inl h))))))) (fun h => (Or.elim h (fun h => (Or.inr (Or.inr (Or.inr (Or.inr (Or.inr (Or.inr (Or.inl h)))))))) (fun h => (Or.elim h (fun h => (Or.inr (Or.inr (Or.inr (Or.inr (Or.inr (Or.inr (Or.inr (Or.inl h))))))))) (fun h => (Or.elim h (fun h => (Or.inr (Or.inr (Or.inr (Or.inr (Or.inr (Or.inr (Or.inr (Or.inr (Or.inl h)))))))))) (fun h => (Or.elim h (fun h => (Or.inr (Or.inr (Or.inr (Or.inr (Or.inr (Or.inr (Or.inr (Or.inr (Or.inr (Or.inl h))))))))))) (fun h => (Or.elim h (fun h => (Or.inr (Or.inr (Or.inr (Or.inr (Or.inr (Or.inr (Or.inr (Or.inr (Or.inr (Or.inr (Or.inl h)))))))))))) (fun h => (Or.elim h (fun h => (Or.inr (Or.inr (Or.inr (Or.inr (Or.inr (Or.inr (Or.inr (Or.inr (Or.inr (Or.inr (Or.inr (Or.inl h))))))))))))) (fun h => (Or.elim h (fun h => (Or.inr (Or.inr (Or.inr (Or.inr (Or.inr (Or.inr (Or.inr (Or.inr (Or.inr (Or.inr (Or.inr (Or.inr (Or.inl h)))))))))))))) (fun h => (Or.elim h (fun h => (Or.inr (Or.inr (Or.inr (Or.inr (Or.inr (Or.inr (Or.inr (Or.inr (Or.inr (Or.inr (Or.inr (Or.inr (Or.inr (Or.inl h))))))))))))))) (fun h => (Or.elim h (fun h => (Or.inr (Or.inr (Or.inr (Or.inr (Or.inr (Or.inr (Or.inr (Or.inr (Or.inr (Or.inr (Or.inr (Or.inr (Or.inr (Or.inr (Or.inl h)))))))))))))))) (fun h => (Or.elim h (fun h => (Or.inr (Or.inr (Or.inr (Or.inr (Or.inr (Or.inr (Or.inr (Or.inr (Or.inr (Or.inr (Or.inr (Or.inr (Or.inr (Or.inr (Or.inr h)))))))))))))))) (fun h => (Or.inl h))))))))))))))))))))))))))))))))).trans (hug1.2 k j (fun h => hk (Or.inl h))))) (by omega) hE)
    · skip
      replace hE := zf_ip hE c14_13
      refine mm_g 1 (pc1 := 18) (lo1 := [some (.ref 137), some (.int (Int32.ofInt v2)), o3, o4]) (st1 := [.ref 137]) (H1 := mz_mk g5 x) rfl ?_
      refine mz_fgR (v := 155) rfl fd_12_82 (by decide) (sc_137 _) (rf_137_28 _ _ _) ?_
      refine mm_g 1 (pc1 := 22) (lo1 := [some (.ref 137), some (.int (Int32.ofInt v2)), o3, o4]) (st1 := [.int (Int32.ofInt v2), .ref 155]) (H1 := mz_mk g5 x) rfl ?_
      refine mz_aI rfl (sh_155 _) (by omega) (by omega) (by decide) hIg5 (ba_155 _) (fun v14 e_v14 l_v14 u_v14 => ?_)
      replace hE := zf_tr hE (zf_le e_v14)
      refine mm_g 3 (pc1 := 26) (lo1 := [some (.ref 137), some (.int (Int32.ofInt v2)), some (.int (Int32.ofInt v14)), some (.int (Int32.ofInt 0))]) (st1 := []) (H1 := mz_mk g5 x) rfl ?_
      have hO19 := hE
      have L20 : ∀ n18 : Nat, ∀ (v15 : Int) (g16 : mz_G), (10 - v15).toNat = n18 → 0 ≤ v15 → v15 ≤ 10 → mz_inv g16 → mz_fr (fl_X12_tellFits_26 x) g5 g16 → (g16 137 30 ≤ 999) → (g16 137 50 ≤ 0 + 10 * v2 + 1 * v15) → (∃ fk : Nat, (10 - v15).toNat < fk ∧ zf_E (zL_X12_tellFits_26 3000000000 v2 v14 0 g5) (zL_X12_tellFits_26 fk v2 v14 v15 g16)) → mm_W d mmX12_tellFits 26 [some (.ref 137), some (.int (Int32.ofInt v2)), some (.int (Int32.ofInt v14)), some (.int (Int32.ofInt v15))] [] (mz_mk g16 x) Q := by
        intro n18
        induction n18 using Nat.strongRecOn with
        | ind n18 ih17 =>
        intro v15 g16 hmn18 l_v15 u_v15 hIg16 hfg16 hv21 hv22 hF
        obtain ⟨fk, fl, hE⟩ := hF
        obtain ⟨fj23, rfl⟩ : ∃ fj, fk = fj + 1 := ⟨fk - 1, by omega⟩
        have fn24 : n18 ≤ fj23 := by omega
        replace hE := zf_tr hE zL_X12_tellFits_26_s
        have bz_g16_30 := mz_rd hIg16 bd_137_30
        have bz_g16_50 := mz_rd hIg16 bd_137_50
        refine mm_g 1 (pc1 := 27) (lo1 := [some (.ref 137), some (.int (Int32.ofInt v2)), some (.int (Int32.ofInt v14)), some (.int (Int32.ofInt v15))]) (st1 := [.int (Int32.ofInt v15)]) (H1 := mz_mk g16 x) rfl ?_
        refine mz_bip rfl bip_9 ?_
        refine mz_ic_gt (tgt := 85) rfl rfl (mz_rg l_v15 u_v15) ⟨by decide, by decide⟩ (fun c29_24 => ?_) (fun c29_24 => ?_)
        · skip
          replace hE := zf_ip hE c29_24
          replace hE := zf_t1 hO19 hE
          refine mm_g 1 (pc1 := 86) (lo1 := [some (.ref 137), some (.int (Int32.ofInt v2)), some (.int (Int32.ofInt v14)), some (.int (Int32.ofInt v15))]) (st1 := [.ref 137]) (H1 := mz_mk g16 x) rfl ?_
          refine mz_fgR (v := 155) rfl fd_12_82 (by decide) (sc_137 _) (rf_137_28 _ _ _) ?_
          refine mm_g 2 (pc1 := 91) (lo1 := [some (.ref 137), some (.int (Int32.ofInt v2)), some (.int (Int32.ofInt v14)), some (.int (Int32.ofInt v15))]) (st1 := [.int (Int32.ofInt v14), .int (Int32.ofInt v2), .ref 155]) (H1 := mz_mk g16 x) rfl ?_
          refine mz_sI rfl (sh_155 _) (by omega) (by omega) (by decide) hIg16 (ba_155 _) (by omega) (by omega) (fun g25 hIg25 hug25 => ?_)
          replace hE := zf_tr hE (zf_lg hug25)
          refine mz_iincR (v := v2) (lo2 := [some (.ref 137), some (.int (Int32.ofInt (v2 + 1))), some (.int (Int32.ofInt v14)), some (.int (Int32.ofInt v15))]) rfl rfl rfl (Nat.le_of_ble_eq_true rfl) rfl ?_
          refine mz_gt (tgt := 7) rfl rfl ?_
          exact ih6 ((6 - (v2 + 1)).toNat) (by omega) (v2 + 1) (some (.int (Int32.ofInt v14))) (some (.int (Int32.ofInt v15))) g25 rfl (by omega) (by omega) (mz_nl_i _) (mz_nl_i _) hIg25 (fun k j hk => ((hug25.2 k j (fun h => hk (Or.inl h.1))).trans ((hfg16 k j (fun h => hk (Or.elim h (fun h => (Or.inl h)) (fun h => (Or.elim h (fun h => (Or.inr (Or.inl h))) (fun h => (Or.elim h (fun h => (Or.inr (Or.inr (Or.inl h)))) (fun h => (Or.elim h (fun h => (Or.inr (Or.inr (Or.inr (Or.inl h))))) (fun h => (Or.elim h (fun h => (Or.inr (Or.inr (Or.inr (Or.inr (Or.inl h)))))) (fun h => (Or.elim h (fun h => (Or.inr (Or.inr (Or.inr (Or.inr (Or.inr (Or.inl h))))))) (fun h => (Or.elim h (fun h => (Or.inr (Or.inr (Or.inr (Or.inr (Or.inr (Or.inr (Or.inl h)))))))) (fun h => (Or.elim h (fun h => (Or.inr (Or.inr (Or.inr (Or.inr (Or.inr (Or.inr (Or.inr (Or.inl h))))))))) (fun h => (Or.elim h (fun h => (Or.inr (Or.inr (Or.inr (Or.inr (Or.inr (Or.inr (Or.inr (Or.inr (Or.inl h)))))))))) (fun h => (Or.elim h (fun h => (Or.inr (Or.inr (Or.inr (Or.inr (Or.inr (Or.inr (Or.inr (Or.inr (Or.inr (Or.inl h))))))))))) (fun h => (Or.elim h (fun h => (Or.inr (Or.inr (Or.inr (Or.inr (Or.inr (Or.inr (Or.inr (Or.inr (Or.inr (Or.inr (Or.inl h)))))))))))) (fun h => (Or.elim h (fun h => (Or.inr (Or.inr (Or.inr (Or.inr (Or.inr (Or.inr (Or.inr (Or.inr (Or.inr (Or.inr (Or.inr (Or.inl h))))))))))))) (fun h => (Or.elim h (fun h => (Or.inr (Or.inr (Or.inr (Or.inr (Or.inr (Or.inr (Or.inr (Or.inr (Or.inr (Or.inr (Or.inr (Or.inr (Or.inl h)))))))))))))) (fun h => (Or.elim h (fun h => (Or.inr (Or.inr (Or.inr (Or.inr (Or.inr (Or.inr (Or.inr (Or.inr (Or.inr (Or.inr (Or.inr (Or.inr (Or.inr (Or.inl h))))))))))))))) (fun h => (Or.elim h (fun h => (Or.inr (Or.inr (Or.inr (Or.inr (Or.inr (Or.inr (Or.inr (Or.inr (Or.inr (Or.inr (Or.inr (Or.inr (Or.inr (Or.inr (Or.inl h)))))))))))))))) (fun h => (Or.inr (Or.inr (Or.inr (Or.inr (Or.inr (Or.inr (Or.inr (Or.inr (Or.inr (Or.inr (Or.inr (Or.inr (Or.inr (Or.inr (Or.inr h))))))))))))))))))))))))))))))))))))))))))))))).trans (hfg5 k j (fun h => hk (Or.elim h (fun h => (Or.inl h)) (fun h => (Or.elim h (fun h => (Or.inr (Or.inl h))) (fun h => (Or.elim h (fun h => (Or.inr (Or.inr (Or.inl h)))) (fun h => (Or.elim h (fun h => (Or.inr (Or.inr (Or.inr (Or.inl h))))) (fun h => (Or.elim h (fun h => (Or.inr (Or.inr (Or.inr (Or.inr (Or.inl h)))))) (fun h => (Or.elim h (fun h => (Or.inr (Or.inr (Or.inr (Or.inr (Or.inr (Or.inl h))))))) (fun h => (Or.elim h (fun h => (Or.inr (Or.inr (Or.inr (Or.inr (Or.inr (Or.inr (Or.inl h)))))))) (fun h => (Or.elim h (fun h => (Or.inr (Or.inr (Or.inr (Or.inr (Or.inr (Or.inr (Or.inr (Or.inl h))))))))) (fun h => (Or.elim h (fun h => (Or.inr (Or.inr (Or.inr (Or.inr (Or.inr (Or.inr (Or.inr (Or.inr (Or.inl h)))))))))) (fun h => (Or.elim h (fun h => (Or.inr (Or.inr (Or.inr (Or.inr (Or.inr (Or.inr (Or.inr (Or.inr (Or.inr (Or.inl h))))))))))) (fun h => (Or.elim h (fun h => (Or.inr (Or.inr (Or.inr (Or.inr (Or.inr (Or.inr (Or.inr (Or.inr (Or.inr (Or.inr (Or.inl h)))))))))))) (fun h => (Or.elim h (fun h => (Or.inr (Or.inr (Or.inr (Or.inr (Or.inr (Or.inr (Or.inr (Or.inr (Or.inr (Or.inr (Or.inr (Or.inl h))))))))))))) (fun h => (Or.elim h (fun h => (Or.inr (Or.inr (Or.inr (Or.inr (Or.inr (Or.inr (Or.inr (Or.inr (Or.inr (Or.inr (Or.inr (Or.inr (Or.inl h)))))))))))))) (fun h => (Or.elim h (fun h => (Or.inr (Or.inr (Or.inr (Or.inr (Or.inr (Or.inr (Or.inr (Or.inr (Or.inr (Or.inr (Or.inr (Or.inr (Or.inr (Or.inl h))))))))))))))) (fun h => (Or.elim h (fun h => (Or.inr (Or.inr (Or.inr (Or.inr (Or.inr (Or.inr (Or.inr (Or.inr (Or.inr (Or.inr (Or.inr (Or.inr (Or.inr (Or.inr (Or.inl h)))))))))))))))) (fun h => (Or.inr (Or.inr (Or.inr (Or.inr (Or.inr (Or.inr (Or.inr (Or.inr (Or.inr (Or.inr (Or.inr (Or.inr (Or.inr (Or.inr (Or.inr h)))))))))))))))))))))))))))))))))))))))))))))))))) (by have h9 := (show g25 137 30 = (g16 137 30) from ((hug25.2 137 30 (fun h => absurd h.1 (by decide))).trans rfl)); omega) (by have h9 := (show g25 137 50 = (g16 137 50) from ((hug25.2 137 50 (fun h => absurd h.1 (by decide))).trans rfl)); omega) ⟨fj11, Nat.lt_of_lt_of_le (show ((6 - (v2 + 1)).toNat) < n7 from (by omega)) fn12, hE⟩
        · skip
          replace hE := zf_nl hE c29_24
          refine mm_g 1 (pc1 := 33) (lo1 := [some (.ref 137), some (.int (Int32.ofInt v2)), some (.int (Int32.ofInt v14)), some (.int (Int32.ofInt v15))]) (st1 := [.ref 137]) (H1 := mz_mk g16 x) rfl ?_
          refine mz_fgR (v := 155) rfl fd_12_82 (by decide) (sc_137 _) (rf_137_28 _ _ _) ?_
          refine mm_g 2 (pc1 := 38) (lo1 := [some (.ref 137), some (.int (Int32.ofInt v2)), some (.int (Int32.ofInt v14)), some (.int (Int32.ofInt v15))]) (st1 := [.int (Int32.ofInt v15), .int (Int32.ofInt v2), .ref 155]) (H1 := mz_mk g16 x) rfl ?_
          refine mz_sI rfl (sh_155 _) (by omega) (by omega) (by decide) hIg16 (ba_155 _) (by omega) (by omega) (fun g26 hIg26 hug26 => ?_)
          replace hE := zf_tr hE (zf_lg hug26)
          refine mm_g 2 (pc1 := 41) (lo1 := [some (.ref 137), some (.int (Int32.ofInt v2)), some (.int (Int32.ofInt v14)), some (.int (Int32.ofInt v15))]) (st1 := [.int (Int32.ofInt v14), .int (Int32.ofInt v15)]) (H1 := mz_mk g26 x) rfl ?_
          refine mz_ic_eq (tgt := 79) rfl rfl (mz_rg l_v15 u_v15) (mz_rg l_v14 u_v14) (fun c41_26 => ?_) (fun c41_26 => ?_)
          · skip
            replace hE := zf_ip hE c41_26
            refine mz_iincR (v := v15) (lo2 := [some (.ref 137), some (.int (Int32.ofInt v2)), some (.int (Int32.ofInt v14)), some (.int (Int32.ofInt (v15 + 1)))]) rfl rfl rfl (Nat.le_of_ble_eq_true rfl) rfl ?_
            refine mz_gt (tgt := 26) rfl rfl ?_
            exact ih17 ((10 - (v15 + 1)).toNat) (by omega) (v15 + 1) g26 rfl (by omega) (by omega) hIg26 (fun k j hk => ((hug26.2 k j (fun h => hk (Or.inl h.1))).trans (hfg16 k j (fun h => hk (Or.elim h (fun h => (Or.inl h)) (fun h => (Or.elim h (fun h => (Or.inr (Or.inl h))) (fun h => (Or.elim h (fun h => (Or.inr (Or.inr (Or.inl h)))) (fun h => (Or.elim h (fun h => (Or.inr (Or.inr (Or.inr (Or.inl h))))) (fun h => (Or.elim h (fun h => (Or.inr (Or.inr (Or.inr (Or.inr (Or.inl h)))))) (fun h => (Or.elim h (fun h => (Or.inr (Or.inr (Or.inr (Or.inr (Or.inr (Or.inl h))))))) (fun h => (Or.elim h (fun h => (Or.inr (Or.inr (Or.inr (Or.inr (Or.inr (Or.inr (Or.inl h)))))))) (fun h => (Or.elim h (fun h => (Or.inr (Or.inr (Or.inr (Or.inr (Or.inr (Or.inr (Or.inr (Or.inl h))))))))) (fun h => (Or.elim h (fun h => (Or.inr (Or.inr (Or.inr (Or.inr (Or.inr (Or.inr (Or.inr (Or.inr (Or.inl h)))))))))) (fun h => (Or.elim h (fun h => (Or.inr (Or.inr (Or.inr (Or.inr (Or.inr (Or.inr (Or.inr (Or.inr (Or.inr (Or.inl h))))))))))) (fun h => (Or.elim h (fun h => (Or.inr (Or.inr (Or.inr (Or.inr (Or.inr (Or.inr (Or.inr (Or.inr (Or.inr (Or.inr (Or.inl h)))))))))))) (fun h => (Or.elim h (fun h => (Or.inr (Or.inr (Or.inr (Or.inr (Or.inr (Or.inr (Or.inr (Or.inr (Or.inr (Or.inr (Or.inr (Or.inl h))))))))))))) (fun h => (Or.elim h (fun h => (Or.inr (Or.inr (Or.inr (Or.inr (Or.inr (Or.inr (Or.inr (Or.inr (Or.inr (Or.inr (Or.inr (Or.inr (Or.inl h)))))))))))))) (fun h => (Or.elim h (fun h => (Or.inr (Or.inr (Or.inr (Or.inr (Or.inr (Or.inr (Or.inr (Or.inr (Or.inr (Or.inr (Or.inr (Or.inr (Or.inr (Or.inl h))))))))))))))) (fun h => (Or.elim h (fun h => (Or.inr (Or.inr (Or.inr (Or.inr (Or.inr (Or.inr (Or.inr (Or.inr (Or.inr (Or.inr (Or.inr (Or.inr (Or.inr (Or.inr (Or.inl h)))))))))))))))) (fun h => (Or.inr (Or.inr (Or.inr (Or.inr (Or.inr (Or.inr (Or.inr (Or.inr (Or.inr (Or.inr (Or.inr (Or.inr (Or.inr (Or.inr (Or.inr h))))))))))))))))))))))))))))))))))))))))))))))))) (by have h9 := (show g26 137 30 = (g16 137 30) from ((hug26.2 137 30 (fun h => absurd h.1 (by decide))).trans rfl)); omega) (by have h9 := (show g26 137 50 = (g16 137 50) from ((hug26.2 137 50 (fun h => absurd h.1 (by decide))).trans rfl)); omega) ⟨fj23, Nat.lt_of_lt_of_le (show ((10 - (v15 + 1)).toNat) < n18 from (by omega)) fn24, hE⟩
          · skip
            replace hE := zf_in hE c41_26
            refine mm_g 1 (pc1 := 45) (lo1 := [some (.ref 137), some (.int (Int32.ofInt v2)), some (.int (Int32.ofInt v14)), some (.int (Int32.ofInt v15))]) (st1 := [.ref 137]) (H1 := mz_mk g26 x) rfl ?_
            refine mz_cv rfl mt_12_478 (by decide) (sc_137 _) rfl (Nat.le_of_ble_eq_true rfl) (by omega) (f_X12_isAsSeen (by omega) hx hIg26 (mz_pv_fr hpv (fun _j => ((hug26.2 149 _j (fun h => absurd h.1 (by decide))).trans ((hfg16 149 _j nj_43).trans ((hfg5 149 _j nj_43).trans ((hug1.2 149 _j (fun h => absurd h.1 (by decide))).trans rfl))))) ((hug26.2 140 3 (fun h => absurd h.1 (by decide))).trans ((hfg16 140 3 nj_44).trans ((hfg5 140 3 nj_44).trans ((hug1.2 140 3 (fun h => absurd h.1 (by decide))).trans rfl))))) (by have h9 := (show g26 137 30 = (g16 137 30) from ((hug26.2 137 30 (fun h => absurd h.1 (by decide))).trans rfl)); omega) (fun v27 g28 hIg28 hfg28 l_v27 u_v27 hp29 hc30 => ⟨_, rfl, ?_⟩))
            show mm_W d mmX12_tellFits 48 [some (.ref 137), some (.int (Int32.ofInt v2)), some (.int (Int32.ofInt v14)), some (.int (Int32.ofInt v15))] [.int (Int32.ofInt v27)] (mz_mk g28 x) Q
            replace hE := zf_t2 hE hc30
            refine mz_if_ne (tgt := 54) rfl rfl (mz_rg l_v27 u_v27) (fun c48_30 => ?_) (fun c48_30 => ?_)
            · skip
              replace hE := zf_in hE c48_30
              refine mm_g 1 (pc1 := 55) (lo1 := [some (.ref 137), some (.int (Int32.ofInt v2)), some (.int (Int32.ofInt v14)), some (.int (Int32.ofInt v15))]) (st1 := [.ref 137]) (H1 := mz_mk g28 x) rfl ?_
              refine mz_fgR (v := 170) rfl fd_12_127 (by decide) (sc_137 _) (rf_137_48 _ _ _) ?_
              refine mm_g 1 (pc1 := 59) (lo1 := [some (.ref 137), some (.int (Int32.ofInt v2)), some (.int (Int32.ofInt v14)), some (.int (Int32.ofInt v15))]) (st1 := [.ref 137, .ref 170]) (H1 := mz_mk g28 x) rfl ?_
              refine mz_fgI (v := (g16 137 50)) rfl fd_12_475 (by decide) (sc_137 _) (show g28 137 50 = (g16 137 50) from ((hfg28 137 50 nj_45).trans ((hug26.2 137 50 (fun h => absurd h.1 (by decide))).trans rfl))) ?_
              replace hE := zf_tr hE (zf_le (show g28 137 50 = (g16 137 50) from ((hfg28 137 50 nj_45).trans ((hug26.2 137 50 (fun h => absurd h.1 (by decide))).trans rfl))))
              refine mz_bip rfl bip_10 ?_
              refine mm_g 1 (pc1 := 65) (lo1 := [some (.ref 137), some (.int (Int32.ofInt v2)), some (.int (Int32.ofInt v14)), some (.int (Int32.ofInt v15))]) (st1 := [.int (Int32.ofInt v2), .int (Int32.ofInt 10), .int (Int32.ofInt (g16 137 50)), .ref 170]) (H1 := mz_mk g28 x) rfl ?_
              refine mz_imul rfl ?_
              refine mm_g 1 (pc1 := 67) (lo1 := [some (.ref 137), some (.int (Int32.ofInt v2)), some (.int (Int32.ofInt v14)), some (.int (Int32.ofInt v15))]) (st1 := [.int (Int32.ofInt v15), .int (Int32.ofInt (10 * v2)), .int (Int32.ofInt (g16 137 50)), .ref 170]) (H1 := mz_mk g28 x) rfl ?_
              refine mz_iadd rfl ?_
              refine mz_sI rfl (sh_170 _) (by omega) (by omega) (by decide) hIg28 (ba_170 _) (by omega) (by omega) (fun g31 hIg31 hug31 => ?_)
              replace hE := zf_tr hE (zf_lg hug31)
              refine mm_g 2 (pc1 := 71) (lo1 := [some (.ref 137), some (.int (Int32.ofInt v2)), some (.int (Int32.ofInt v14)), some (.int (Int32.ofInt v15))]) (st1 := [.ref 137, .ref 137]) (H1 := mz_mk g31 x) rfl ?_
              refine mz_fgI (v := (g16 137 50)) rfl fd_12_475 (by decide) (sc_137 _) (show g31 137 50 = (g16 137 50) from ((hug31.2 137 50 (fun h => absurd h.1 (by decide))).trans ((hfg28 137 50 nj_45).trans ((hug26.2 137 50 (fun h => absurd h.1 (by decide))).trans rfl)))) ?_
              replace hE := zf_tr hE (zf_le (show g31 137 50 = (g16 137 50) from ((hug31.2 137 50 (fun h => absurd h.1 (by decide))).trans ((hfg28 137 50 nj_45).trans ((hug26.2 137 50 (fun h => absurd h.1 (by decide))).trans rfl)))))
              refine mm_g 1 (pc1 := 75) (lo1 := [some (.ref 137), some (.int (Int32.ofInt v2)), some (.int (Int32.ofInt v14)), some (.int (Int32.ofInt v15))]) (st1 := [.int (Int32.ofInt 1), .int (Int32.ofInt (g16 137 50)), .ref 137]) (H1 := mz_mk g31 x) rfl ?_
              refine mz_iadd rfl ?_
              refine mz_pI rfl fd_12_475 (sc_137 _) hIg31 bd_137_50 (by omega) (by omega) (fun g32 hIg32 hug32 => ?_)
              replace hE := zf_tr hE (zf_lg hug32)
              refine mz_iincR (v := v15) (lo2 := [some (.ref 137), some (.int (Int32.ofInt v2)), some (.int (Int32.ofInt v14)), some (.int (Int32.ofInt (v15 + 1)))]) rfl rfl rfl (Nat.le_of_ble_eq_true rfl) rfl ?_
              refine mz_gt (tgt := 26) rfl rfl ?_
              exact ih17 ((10 - (v15 + 1)).toNat) (by omega) (v15 + 1) g32 rfl (by omega) (by omega) hIg32 (fun k j hk => ((hug32.2 k j (fun h => hk (Or.inr (Or.inr (Or.inr (Or.inr (Or.inr (Or.inr (Or.inr (Or.inr (Or.inr (Or.inr (Or.inr (Or.inr (Or.inr (Or.inr (Or.inr h))))))))))))))))).trans ((hug31.2 k j (fun h => hk (Or.inr (Or.inr (Or.inr (Or.inr (Or.inr (Or.inr (Or.inr (Or.inr (Or.inr (Or.inr (Or.inr (Or.inr (Or.inr (Or.inr (Or.inl h.1))))))))))))))))).trans ((hfg28 k j (fun h => hk (Or.elim h (fun h => (Or.inr (Or.inl h))) (fun h => (Or.elim h (fun h => (Or.inr (Or.inr (Or.inl h)))) (fun h => (Or.elim h (fun h => (Or.inr (Or.inr (Or.inr (Or.inl h))))) (fun h => (Or.elim h (fun h => (Or.inr (Or.inr (Or.inr (Or.inr (Or.inl h)))))) (fun h => (Or.elim h (fun h => (Or.inr (Or.inr (Or.inr (Or.inr (Or.inr (Or.inl h))))))) (fun h => (Or.elim h (fun h => (Or.inr (Or.inr (Or.inr (Or.inr (Or.inr (Or.inr (Or.inl h)))))))) (fun h => (Or.elim h (fun h => (Or.inr (Or.inr (Or.inr (Or.inr (Or.inr (Or.inr (Or.inr (Or.inl h))))))))) (fun h => (Or.elim h (fun h => (Or.inr (Or.inr (Or.inr (Or.inr (Or.inr (Or.inr (Or.inr (Or.inr (Or.inl h)))))))))) (fun h => (Or.elim h (fun h => (Or.inr (Or.inr (Or.inr (Or.inr (Or.inr (Or.inr (Or.inr (Or.inr (Or.inr (Or.inl h))))))))))) (fun h => (Or.elim h (fun h => (Or.inr (Or.inr (Or.inr (Or.inr (Or.inr (Or.inr (Or.inr (Or.inr (Or.inr (Or.inr (Or.inl h)))))))))))) (fun h => (Or.elim h (fun h => (Or.inr (Or.inr (Or.inr (Or.inr (Or.inr (Or.inr (Or.inr (Or.inr (Or.inr (Or.inr (Or.inr (Or.inl h))))))))))))) (fun h => (Or.elim h (fun h => (Or.inr (Or.inr (Or.inr (Or.inr (Or.inr (Or.inr (Or.inr (Or.inr (Or.inr (Or.inr (Or.inr (Or.inr (Or.inl h)))))))))))))) (fun h => (Or.elim h (fun h => (Or.inr (Or.inr (Or.inr (Or.inr (Or.inr (Or.inr (Or.inr (Or.inr (Or.inr (Or.inr (Or.inr (Or.inr (Or.inr (Or.inl h))))))))))))))) (fun h => (Or.inl h))))))))))))))))))))))))))))).trans ((hug26.2 k j (fun h => hk (Or.inl h.1))).trans (hfg16 k j (fun h => hk (Or.elim h (fun h => (Or.inl h)) (fun h => (Or.elim h (fun h => (Or.inr (Or.inl h))) (fun h => (Or.elim h (fun h => (Or.inr (Or.inr (Or.inl h)))) (fun h => (Or.elim h (fun h => (Or.inr (Or.inr (Or.inr (Or.inl h))))) (fun h => (Or.elim h (fun h => (Or.inr (Or.inr (Or.inr (Or.inr (Or.inl h)))))) (fun h => (Or.elim h (fun h => (Or.inr (Or.inr (Or.inr (Or.inr (Or.inr (Or.inl h))))))) (fun h => (Or.elim h (fun h => (Or.inr (Or.inr (Or.inr (Or.inr (Or.inr (Or.inr (Or.inl h)))))))) (fun h => (Or.elim h (fun h => (Or.inr (Or.inr (Or.inr (Or.inr (Or.inr (Or.inr (Or.inr (Or.inl h))))))))) (fun h => (Or.elim h (fun h => (Or.inr (Or.inr (Or.inr (Or.inr (Or.inr (Or.inr (Or.inr (Or.inr (Or.inl h)))))))))) (fun h => (Or.elim h (fun h => (Or.inr (Or.inr (Or.inr (Or.inr (Or.inr (Or.inr (Or.inr (Or.inr (Or.inr (Or.inl h))))))))))) (fun h => (Or.elim h (fun h => (Or.inr (Or.inr (Or.inr (Or.inr (Or.inr (Or.inr (Or.inr (Or.inr (Or.inr (Or.inr (Or.inl h)))))))))))) (fun h => (Or.elim h (fun h => (Or.inr (Or.inr (Or.inr (Or.inr (Or.inr (Or.inr (Or.inr (Or.inr (Or.inr (Or.inr (Or.inr (Or.inl h))))))))))))) (fun h => (Or.elim h (fun h => (Or.inr (Or.inr (Or.inr (Or.inr (Or.inr (Or.inr (Or.inr (Or.inr (Or.inr (Or.inr (Or.inr (Or.inr (Or.inl h)))))))))))))) (fun h => (Or.elim h (fun h => (Or.inr (Or.inr (Or.inr (Or.inr (Or.inr (Or.inr (Or.inr (Or.inr (Or.inr (Or.inr (Or.inr (Or.inr (Or.inr (Or.inl h))))))))))))))) (fun h => (Or.elim h (fun h => (Or.inr (Or.inr (Or.inr (Or.inr (Or.inr (Or.inr (Or.inr (Or.inr (Or.inr (Or.inr (Or.inr (Or.inr (Or.inr (Or.inr (Or.inl h)))))))))))))))) (fun h => (Or.inr (Or.inr (Or.inr (Or.inr (Or.inr (Or.inr (Or.inr (Or.inr (Or.inr (Or.inr (Or.inr (Or.inr (Or.inr (Or.inr (Or.inr h)))))))))))))))))))))))))))))))))))))))))))))))))))) (by have h9 := (show g32 137 30 = (g28 137 30) from ((hug32.2 137 30 (fun h => absurd h.2 (by decide))).trans ((hug31.2 137 30 (fun h => absurd h.1 (by decide))).trans rfl))); omega) (by have h9 := (show g32 137 50 = ((g16 137 50) + 1) from hug32.1); omega) ⟨fj23, Nat.lt_of_lt_of_le (show ((10 - (v15 + 1)).toNat) < n18 from (by omega)) fn24, hE⟩
            · skip
              replace hE := zf_ip hE c48_30
              refine mz_gt (tgt := 79) rfl rfl ?_
              refine mz_iincR (v := v15) (lo2 := [some (.ref 137), some (.int (Int32.ofInt v2)), some (.int (Int32.ofInt v14)), some (.int (Int32.ofInt (v15 + 1)))]) rfl rfl rfl (Nat.le_of_ble_eq_true rfl) rfl ?_
              refine mz_gt (tgt := 26) rfl rfl ?_
              exact ih17 ((10 - (v15 + 1)).toNat) (by omega) (v15 + 1) g28 rfl (by omega) (by omega) hIg28 (fun k j hk => ((hfg28 k j (fun h => hk (Or.elim h (fun h => (Or.inr (Or.inl h))) (fun h => (Or.elim h (fun h => (Or.inr (Or.inr (Or.inl h)))) (fun h => (Or.elim h (fun h => (Or.inr (Or.inr (Or.inr (Or.inl h))))) (fun h => (Or.elim h (fun h => (Or.inr (Or.inr (Or.inr (Or.inr (Or.inl h)))))) (fun h => (Or.elim h (fun h => (Or.inr (Or.inr (Or.inr (Or.inr (Or.inr (Or.inl h))))))) (fun h => (Or.elim h (fun h => (Or.inr (Or.inr (Or.inr (Or.inr (Or.inr (Or.inr (Or.inl h)))))))) (fun h => (Or.elim h (fun h => (Or.inr (Or.inr (Or.inr (Or.inr (Or.inr (Or.inr (Or.inr (Or.inl h))))))))) (fun h => (Or.elim h (fun h => (Or.inr (Or.inr (Or.inr (Or.inr (Or.inr (Or.inr (Or.inr (Or.inr (Or.inl h)))))))))) (fun h => (Or.elim h (fun h => (Or.inr (Or.inr (Or.inr (Or.inr (Or.inr (Or.inr (Or.inr (Or.inr (Or.inr (Or.inl h))))))))))) (fun h => (Or.elim h (fun h => (Or.inr (Or.inr (Or.inr (Or.inr (Or.inr (Or.inr (Or.inr (Or.inr (Or.inr (Or.inr (Or.inl h)))))))))))) (fun h => (Or.elim h (fun h => (Or.inr (Or.inr (Or.inr (Or.inr (Or.inr (Or.inr (Or.inr (Or.inr (Or.inr (Or.inr (Or.inr (Or.inl h))))))))))))) (fun h => (Or.elim h (fun h => (Or.inr (Or.inr (Or.inr (Or.inr (Or.inr (Or.inr (Or.inr (Or.inr (Or.inr (Or.inr (Or.inr (Or.inr (Or.inl h)))))))))))))) (fun h => (Or.elim h (fun h => (Or.inr (Or.inr (Or.inr (Or.inr (Or.inr (Or.inr (Or.inr (Or.inr (Or.inr (Or.inr (Or.inr (Or.inr (Or.inr (Or.inl h))))))))))))))) (fun h => (Or.inl h))))))))))))))))))))))))))))).trans ((hug26.2 k j (fun h => hk (Or.inl h.1))).trans (hfg16 k j (fun h => hk (Or.elim h (fun h => (Or.inl h)) (fun h => (Or.elim h (fun h => (Or.inr (Or.inl h))) (fun h => (Or.elim h (fun h => (Or.inr (Or.inr (Or.inl h)))) (fun h => (Or.elim h (fun h => (Or.inr (Or.inr (Or.inr (Or.inl h))))) (fun h => (Or.elim h (fun h => (Or.inr (Or.inr (Or.inr (Or.inr (Or.inl h)))))) (fun h => (Or.elim h (fun h => (Or.inr (Or.inr (Or.inr (Or.inr (Or.inr (Or.inl h))))))) (fun h => (Or.elim h (fun h => (Or.inr (Or.inr (Or.inr (Or.inr (Or.inr (Or.inr (Or.inl h)))))))) (fun h => (Or.elim h (fun h => (Or.inr (Or.inr (Or.inr (Or.inr (Or.inr (Or.inr (Or.inr (Or.inl h))))))))) (fun h => (Or.elim h (fun h => (Or.inr (Or.inr (Or.inr (Or.inr (Or.inr (Or.inr (Or.inr (Or.inr (Or.inl h)))))))))) (fun h => (Or.elim h (fun h => (Or.inr (Or.inr (Or.inr (Or.inr (Or.inr (Or.inr (Or.inr (Or.inr (Or.inr (Or.inl h))))))))))) (fun h => (Or.elim h (fun h => (Or.inr (Or.inr (Or.inr (Or.inr (Or.inr (Or.inr (Or.inr (Or.inr (Or.inr (Or.inr (Or.inl h)))))))))))) (fun h => (Or.elim h (fun h => (Or.inr (Or.inr (Or.inr (Or.inr (Or.inr (Or.inr (Or.inr (Or.inr (Or.inr (Or.inr (Or.inr (Or.inl h))))))))))))) (fun h => (Or.elim h (fun h => (Or.inr (Or.inr (Or.inr (Or.inr (Or.inr (Or.inr (Or.inr (Or.inr (Or.inr (Or.inr (Or.inr (Or.inr (Or.inl h)))))))))))))) (fun h => (Or.elim h (fun h => (Or.inr (Or.inr (Or.inr (Or.inr (Or.inr (Or.inr (Or.inr (Or.inr (Or.inr (Or.inr (Or.inr (Or.inr (Or.inr (Or.inl h))))))))))))))) (fun h => (Or.elim h (fun h => (Or.inr (Or.inr (Or.inr (Or.inr (Or.inr (Or.inr (Or.inr (Or.inr (Or.inr (Or.inr (Or.inr (Or.inr (Or.inr (Or.inr (Or.inl h)))))))))))))))) (fun h => (Or.inr (Or.inr (Or.inr (Or.inr (Or.inr (Or.inr (Or.inr (Or.inr (Or.inr (Or.inr (Or.inr (Or.inr (Or.inr (Or.inr (Or.inr h)))))))))))))))))))))))))))))))))))))))))))))))))) (by omega) (by have h9 := (show g28 137 50 = (g16 137 50) from ((hfg28 137 50 nj_45).trans ((hug26.2 137 50 (fun h => absurd h.1 (by decide))).trans rfl))); omega) ⟨fj23, Nat.lt_of_lt_of_le (show ((10 - (v15 + 1)).toNat) < n18 from (by omega)) fn24, hE⟩
      exact L20 _ 0 g5 rfl (by decide) (by decide) hIg5 (fun _ _ _ => rfl) (by omega) (by omega) ⟨3000000000, by omega, zf_rf⟩
  exact L8 _ 0 none none g1 rfl (by decide) (by decide) mz_nl_n mz_nl_n hIg1 (fun _ _ _ => rfl) (by have h9 := (show g1 137 30 = (g 137 30) from ((hug1.2 137 30 (fun h => absurd h.2 (by decide))).trans rfl)); omega) (by have h9 := (show g1 137 50 = 0 from hug1.1); omega) ⟨3000000000, by omega, hE⟩
def fw_X12_loose (x : mm_X) (a1 : Int) : Nat → Nat → Prop := fun k j => (k = 137 ∧ j = 2) ∨ (k = 137 ∧ j = 50) ∨ k = 155 ∨ k = 169 ∨ (k = 160 ∧ j = 0) ∨ (k = 160 ∧ j = 1) ∨ (k = 160 ∧ j = 2) ∨ (k = 160 ∧ j = 3) ∨ (k = 160 ∧ j = 4) ∨ (k = 160 ∧ j = 5) ∨ (k = 160 ∧ j = 6) ∨ k = 161 ∨ k = 152 ∨ (k = 137 ∧ j = 30) ∨ k = 153 ∨ k = 154 ∨ k = 170
theorem f_X12_loose {d : Nat} (hd : 18 ≤ d) {x : mm_X} (hx : mk_x x) {g : mz_G} (hI : mz_inv g) {a1 : Int} (l_a1 : (-2147483648) ≤ a1) (u_a1 : a1 ≤ 2147483647) (p1 : mz_pv g) (p2 : g 137 30 ≤ 999) {Q : (Option Value ⊕ Nat) → mm_H → Prop} (hQ : ∀ (r : Int) (g1 : mz_G), mz_inv g1 → mz_fr (fw_X12_loose x a1) g g1 → (-1) ≤ r → r ≤ 60 → (g1 137 30 ≤ 999) → zf_E (zF_X12_loose a1 g) ((r, g1)) → Q (.inl (some (.int (Int32.ofInt r)))) (mz_mk g1 x)) : mm_C d 281 [.ref 137, .int (Int32.ofInt a1)] (mz_mk g x) Q := by
  refine ⟨mmX12_loose, [some (.ref 137), some (.int (Int32.ofInt a1))], rfl, rfl, ?_⟩
  have bz0 := mz_rd hI bd_137_30
  have hpv := p1
  have hE : zf_E (zF_X12_loose a1 g) (zF_X12_loose a1 g) := zf_rf
  refine mm_g 2 (pc1 := 2) (lo1 := [some (.ref 137), some (.int (Int32.ofInt a1))]) (st1 := [.int (Int32.ofInt 0), .ref 137]) (H1 := mz_mk g x) rfl ?_
  refine mz_pI rfl fd_12_154 (sc_137 _) hI bd_137_2 (by omega) (by omega) (fun g1 hIg1 hug1 => ?_)
  replace hE := zf_tr hE (zf_lg hug1)
  refine mm_g 1 (pc1 := 6) (lo1 := [some (.ref 137), some (.int (Int32.ofInt a1))]) (st1 := [.int (Int32.ofInt a1)]) (H1 := mz_mk g1 x) rfl ?_
  refine mz_i2l rfl (mz_rg l_a1 u_a1) ?_
  refine mz_lcst (c := 0) rfl rfl ?_
  refine mz_l2w (c := 2) rfl rfl rfl ?_
  refine mz_cs rfl mt_12_157 (by decide) rfl (Nat.le_of_ble_eq_true rfl) (by omega) (f_X12_isIn (by omega) hx hIg1 (by omega) (by omega) (by omega) (by omega) (by omega) (by omega) (fun v2 l_v2 u_v2 hp3 hc4 => ⟨_, rfl, ?_⟩))
  show mm_W d mmX12_loose 14 [some (.ref 137), some (.int (Int32.ofInt a1))] [.int (Int32.ofInt v2)] (mz_mk g1 x) Q
  replace hE := zf_t1 hE hc4
  refine mz_if_ne (tgt := 23) rfl rfl (mz_rg l_v2 u_v2) (fun c14_4 => ?_) (fun c14_4 => ?_)
  · skip
    replace hE := zf_in hE c14_4
    refine mm_g 2 (pc1 := 25) (lo1 := [some (.ref 137), some (.int (Int32.ofInt a1))]) (st1 := [.int (Int32.ofInt 2), .int (Int32.ofInt a1)]) (H1 := mz_mk g1 x) rfl ?_
    refine mz_ic_ne (tgt := 41) rfl rfl (mz_rg l_a1 u_a1) ⟨by decide, by decide⟩ (fun c25_4 => ?_) (fun c25_4 => ?_)
    · skip
      replace hE := zf_in hE c25_4
      refine mm_g 1 (pc1 := 42) (lo1 := [some (.ref 137), some (.int (Int32.ofInt a1))]) (st1 := [.ref 137]) (H1 := mz_mk g1 x) rfl ?_
      refine mz_cv rfl mt_12_481 (by decide) (sc_137 _) rfl (Nat.le_of_ble_eq_true rfl) (by omega) (f_X12_tellFits (by omega) hx hIg1 (mz_pv_fr hpv (fun _j => ((hug1.2 149 _j (fun h => absurd h.1 (by decide))).trans rfl)) ((hug1.2 140 3 (fun h => absurd h.1 (by decide))).trans rfl)) (by have h9 := (show g1 137 30 = (g 137 30) from ((hug1.2 137 30 (fun h => absurd h.2 (by decide))).trans rfl)); omega) (fun g5 hIg5 hfg5 hp6 hc7 => ⟨_, rfl, ?_⟩))
      show mm_W d mmX12_loose 45 [some (.ref 137), some (.int (Int32.ofInt a1))] [] (mz_mk g5 x) Q
      replace hE := zf_t1 hE hc7
      refine mm_g 1 (pc1 := 46) (lo1 := [some (.ref 137), some (.int (Int32.ofInt a1))]) (st1 := [.int (Int32.ofInt a1)]) (H1 := mz_mk g5 x) rfl ?_
      refine mz_if_ne (tgt := 56) rfl rfl (mz_rg l_a1 u_a1) (fun c46_7 => ?_) (fun c46_7 => ?_)
      · skip
        replace hE := zf_in hE c46_7
        refine mm_g 1 (pc1 := 57) (lo1 := [some (.ref 137), some (.int (Int32.ofInt a1))]) (st1 := [.ref 137]) (H1 := mz_mk g5 x) rfl ?_
        refine mz_gI rfl fd_12_475 (by decide) (sc_137 _) hIg5 bd_137_50 (fun v8 e_v8 l_v8 u_v8 => ?_)
        replace hE := zf_tr hE (zf_le e_v8)
        refine mz_if_ne (tgt := 67) rfl rfl (mz_rg l_v8 u_v8) (fun c60_8 => ?_) (fun c60_8 => ?_)
        · skip
          replace hE := zf_in hE c60_8
          refine mm_g 1 (pc1 := 68) (lo1 := [some (.ref 137), some (.int (Int32.ofInt a1))]) (st1 := [.ref 137]) (H1 := mz_mk g5 x) rfl ?_
          refine mz_fgR (v := 170) rfl fd_12_127 (by decide) (sc_137 _) (rf_137_48 _ _ _) ?_
          refine mm_g 1 (pc1 := 72) (lo1 := [some (.ref 137), some (.int (Int32.ofInt a1))]) (st1 := [.int (Int32.ofInt 0), .ref 170]) (H1 := mz_mk g5 x) rfl ?_
          refine mz_aI rfl (sh_170 _) (by omega) (by omega) (by decide) hIg5 (ba_170 _) (fun v9 e_v9 l_v9 u_v9 => ?_)
          have e_v9 : g5 170 0 = v9 := e_v9
          replace hE := zf_tr hE (zf_le e_v9)
          exact mm_rt rfl rfl (hQ _ _ hIg5 (fun k j hk => ((hfg5 k j (fun h => hk (Or.elim h (fun h => (Or.inr (Or.inl h))) (fun h => (Or.elim h (fun h => (Or.inr (Or.inr (Or.inl h)))) (fun h => (Or.elim h (fun h => (Or.inr (Or.inr (Or.inr (Or.inl h))))) (fun h => (Or.elim h (fun h => (Or.inr (Or.inr (Or.inr (Or.inr (Or.inl h)))))) (fun h => (Or.elim h (fun h => (Or.inr (Or.inr (Or.inr (Or.inr (Or.inr (Or.inl h))))))) (fun h => (Or.elim h (fun h => (Or.inr (Or.inr (Or.inr (Or.inr (Or.inr (Or.inr (Or.inl h)))))))) (fun h => (Or.elim h (fun h => (Or.inr (Or.inr (Or.inr (Or.inr (Or.inr (Or.inr (Or.inr (Or.inl h))))))))) (fun h => (Or.elim h (fun h => (Or.inr (Or.inr (Or.inr (Or.inr (Or.inr (Or.inr (Or.inr (Or.inr (Or.inl h)))))))))) (fun h => (Or.elim h (fun h => (Or.inr (Or.inr (Or.inr (Or.inr (Or.inr (Or.inr (Or.inr (Or.inr (Or.inr (Or.inl h))))))))))) (fun h => (Or.elim h (fun h => (Or.inr (Or.inr (Or.inr (Or.inr (Or.inr (Or.inr (Or.inr (Or.inr (Or.inr (Or.inr (Or.inl h)))))))))))) (fun h => (Or.elim h (fun h => (Or.inr (Or.inr (Or.inr (Or.inr (Or.inr (Or.inr (Or.inr (Or.inr (Or.inr (Or.inr (Or.inr (Or.inl h))))))))))))) (fun h => (Or.elim h (fun h => (Or.inr (Or.inr (Or.inr (Or.inr (Or.inr (Or.inr (Or.inr (Or.inr (Or.inr (Or.inr (Or.inr (Or.inr (Or.inl h)))))))))))))) (fun h => (Or.elim h (fun h => (Or.inr (Or.inr (Or.inr (Or.inr (Or.inr (Or.inr (Or.inr (Or.inr (Or.inr (Or.inr (Or.inr (Or.inr (Or.inr (Or.inl h))))))))))))))) (fun h => (Or.elim h (fun h => (Or.inr (Or.inr (Or.inr (Or.inr (Or.inr (Or.inr (Or.inr (Or.inr (Or.inr (Or.inr (Or.inr (Or.inr (Or.inr (Or.inr (Or.inl h)))))))))))))))) (fun h => (Or.elim h (fun h => (Or.inr (Or.inr (Or.inr (Or.inr (Or.inr (Or.inr (Or.inr (Or.inr (Or.inr (Or.inr (Or.inr (Or.inr (Or.inr (Or.inr (Or.inr (Or.inl h))))))))))))))))) (fun h => (Or.inr (Or.inr (Or.inr (Or.inr (Or.inr (Or.inr (Or.inr (Or.inr (Or.inr (Or.inr (Or.inr (Or.inr (Or.inr (Or.inr (Or.inr (Or.inr h)))))))))))))))))))))))))))))))))))))))))))))))).trans (hug1.2 k j (fun h => hk (Or.inl h))))) (by omega) (by omega) (by omega) hE)
        · skip
          replace hE := zf_ip hE c60_8
          refine mm_g 1 (pc1 := 64) (lo1 := [some (.ref 137), some (.int (Int32.ofInt a1))]) (st1 := [.int (Int32.ofInt (-1))]) (H1 := mz_mk g5 x) rfl ?_
          refine mz_gt (tgt := 73) rfl rfl ?_
          exact mm_rt rfl rfl (hQ _ _ hIg5 (fun k j hk => ((hfg5 k j (fun h => hk (Or.elim h (fun h => (Or.inr (Or.inl h))) (fun h => (Or.elim h (fun h => (Or.inr (Or.inr (Or.inl h)))) (fun h => (Or.elim h (fun h => (Or.inr (Or.inr (Or.inr (Or.inl h))))) (fun h => (Or.elim h (fun h => (Or.inr (Or.inr (Or.inr (Or.inr (Or.inl h)))))) (fun h => (Or.elim h (fun h => (Or.inr (Or.inr (Or.inr (Or.inr (Or.inr (Or.inl h))))))) (fun h => (Or.elim h (fun h => (Or.inr (Or.inr (Or.inr (Or.inr (Or.inr (Or.inr (Or.inl h)))))))) (fun h => (Or.elim h (fun h => (Or.inr (Or.inr (Or.inr (Or.inr (Or.inr (Or.inr (Or.inr (Or.inl h))))))))) (fun h => (Or.elim h (fun h => (Or.inr (Or.inr (Or.inr (Or.inr (Or.inr (Or.inr (Or.inr (Or.inr (Or.inl h)))))))))) (fun h => (Or.elim h (fun h => (Or.inr (Or.inr (Or.inr (Or.inr (Or.inr (Or.inr (Or.inr (Or.inr (Or.inr (Or.inl h))))))))))) (fun h => (Or.elim h (fun h => (Or.inr (Or.inr (Or.inr (Or.inr (Or.inr (Or.inr (Or.inr (Or.inr (Or.inr (Or.inr (Or.inl h)))))))))))) (fun h => (Or.elim h (fun h => (Or.inr (Or.inr (Or.inr (Or.inr (Or.inr (Or.inr (Or.inr (Or.inr (Or.inr (Or.inr (Or.inr (Or.inl h))))))))))))) (fun h => (Or.elim h (fun h => (Or.inr (Or.inr (Or.inr (Or.inr (Or.inr (Or.inr (Or.inr (Or.inr (Or.inr (Or.inr (Or.inr (Or.inr (Or.inl h)))))))))))))) (fun h => (Or.elim h (fun h => (Or.inr (Or.inr (Or.inr (Or.inr (Or.inr (Or.inr (Or.inr (Or.inr (Or.inr (Or.inr (Or.inr (Or.inr (Or.inr (Or.inl h))))))))))))))) (fun h => (Or.elim h (fun h => (Or.inr (Or.inr (Or.inr (Or.inr (Or.inr (Or.inr (Or.inr (Or.inr (Or.inr (Or.inr (Or.inr (Or.inr (Or.inr (Or.inr (Or.inl h)))))))))))))))) (fun h => (Or.elim h (fun h => (Or.inr (Or.inr (Or.inr (Or.inr (Or.inr (Or.inr (Or.inr (Or.inr (Or.inr (Or.inr (Or.inr (Or.inr (Or.inr (Or.inr (Or.inr (Or.inl h))))))))))))))))) (fun h => (Or.inr (Or.inr (Or.inr (Or.inr (Or.inr (Or.inr (Or.inr (Or.inr (Or.inr (Or.inr (Or.inr (Or.inr (Or.inr (Or.inr (Or.inr (Or.inr h)))))))))))))))))))))))))))))))))))))))))))))))).trans (hug1.2 k j (fun h => hk (Or.inl h))))) (by decide) (by decide) (by omega) hE)
      · skip
        replace hE := zf_ip hE c46_7
        refine mm_g 1 (pc1 := 50) (lo1 := [some (.ref 137), some (.int (Int32.ofInt a1))]) (st1 := [.ref 137]) (H1 := mz_mk g5 x) rfl ?_
        refine mz_gI rfl fd_12_475 (by decide) (sc_137 _) hIg5 bd_137_50 (fun v10 e_v10 l_v10 u_v10 => ?_)
        replace hE := zf_tr hE (zf_le e_v10)
        refine mz_gt (tgt := 73) rfl rfl ?_
        exact mm_rt rfl rfl (hQ _ _ hIg5 (fun k j hk => ((hfg5 k j (fun h => hk (Or.elim h (fun h => (Or.inr (Or.inl h))) (fun h => (Or.elim h (fun h => (Or.inr (Or.inr (Or.inl h)))) (fun h => (Or.elim h (fun h => (Or.inr (Or.inr (Or.inr (Or.inl h))))) (fun h => (Or.elim h (fun h => (Or.inr (Or.inr (Or.inr (Or.inr (Or.inl h)))))) (fun h => (Or.elim h (fun h => (Or.inr (Or.inr (Or.inr (Or.inr (Or.inr (Or.inl h))))))) (fun h => (Or.elim h (fun h => (Or.inr (Or.inr (Or.inr (Or.inr (Or.inr (Or.inr (Or.inl h)))))))) (fun h => (Or.elim h (fun h => (Or.inr (Or.inr (Or.inr (Or.inr (Or.inr (Or.inr (Or.inr (Or.inl h))))))))) (fun h => (Or.elim h (fun h => (Or.inr (Or.inr (Or.inr (Or.inr (Or.inr (Or.inr (Or.inr (Or.inr (Or.inl h)))))))))) (fun h => (Or.elim h (fun h => (Or.inr (Or.inr (Or.inr (Or.inr (Or.inr (Or.inr (Or.inr (Or.inr (Or.inr (Or.inl h))))))))))) (fun h => (Or.elim h (fun h => (Or.inr (Or.inr (Or.inr (Or.inr (Or.inr (Or.inr (Or.inr (Or.inr (Or.inr (Or.inr (Or.inl h)))))))))))) (fun h => (Or.elim h (fun h => (Or.inr (Or.inr (Or.inr (Or.inr (Or.inr (Or.inr (Or.inr (Or.inr (Or.inr (Or.inr (Or.inr (Or.inl h))))))))))))) (fun h => (Or.elim h (fun h => (Or.inr (Or.inr (Or.inr (Or.inr (Or.inr (Or.inr (Or.inr (Or.inr (Or.inr (Or.inr (Or.inr (Or.inr (Or.inl h)))))))))))))) (fun h => (Or.elim h (fun h => (Or.inr (Or.inr (Or.inr (Or.inr (Or.inr (Or.inr (Or.inr (Or.inr (Or.inr (Or.inr (Or.inr (Or.inr (Or.inr (Or.inl h))))))))))))))) (fun h => (Or.elim h (fun h => (Or.inr (Or.inr (Or.inr (Or.inr (Or.inr (Or.inr (Or.inr (Or.inr (Or.inr (Or.inr (Or.inr (Or.inr (Or.inr (Or.inr (Or.inl h)))))))))))))))) (fun h => (Or.elim h (fun h => (Or.inr (Or.inr (Or.inr (Or.inr (Or.inr (Or.inr (Or.inr (Or.inr (Or.inr (Or.inr (Or.inr (Or.inr (Or.inr (Or.inr (Or.inr (Or.inl h))))))))))))))))) (fun h => (Or.inr (Or.inr (Or.inr (Or.inr (Or.inr (Or.inr (Or.inr (Or.inr (Or.inr (Or.inr (Or.inr (Or.inr (Or.inr (Or.inr (Or.inr (Or.inr h)))))))))))))))))))))))))))))))))))))))))))))))).trans (hug1.2 k j (fun h => hk (Or.inl h))))) (by omega) (by omega) (by omega) hE)
    · skip
      replace hE := zf_ip hE c25_4
      refine mm_g 1 (pc1 := 29) (lo1 := [some (.ref 137), some (.int (Int32.ofInt a1))]) (st1 := [.ref 137]) (H1 := mz_mk g1 x) rfl ?_
      refine mz_cv rfl mt_12_478 (by decide) (sc_137 _) rfl (Nat.le_of_ble_eq_true rfl) (by omega) (f_X12_isAsSeen (by omega) hx hIg1 (mz_pv_fr hpv (fun _j => ((hug1.2 149 _j (fun h => absurd h.1 (by decide))).trans rfl)) ((hug1.2 140 3 (fun h => absurd h.1 (by decide))).trans rfl)) (by have h9 := (show g1 137 30 = (g 137 30) from ((hug1.2 137 30 (fun h => absurd h.2 (by decide))).trans rfl)); omega) (fun v11 g12 hIg12 hfg12 l_v11 u_v11 hp13 hc14 => ⟨_, rfl, ?_⟩))
      show mm_W d mmX12_loose 32 [some (.ref 137), some (.int (Int32.ofInt a1))] [.int (Int32.ofInt v11)] (mz_mk g12 x) Q
      replace hE := zf_t2 hE hc14
      refine mz_if_eq (tgt := 39) rfl rfl (mz_rg l_v11 u_v11) (fun c32_14 => ?_) (fun c32_14 => ?_)
      · skip
        replace hE := zf_ip hE c32_14
        refine mm_g 1 (pc1 := 40) (lo1 := [some (.ref 137), some (.int (Int32.ofInt a1))]) (st1 := [.int (Int32.ofInt 0)]) (H1 := mz_mk g12 x) rfl ?_
        exact mm_rt rfl rfl (hQ _ _ hIg12 (fun k j hk => ((hfg12 k j (fun h => hk (Or.elim h (fun h => (Or.inr (Or.inr (Or.inr (Or.inl h))))) (fun h => (Or.elim h (fun h => (Or.inr (Or.inr (Or.inr (Or.inr (Or.inl h)))))) (fun h => (Or.elim h (fun h => (Or.inr (Or.inr (Or.inr (Or.inr (Or.inr (Or.inl h))))))) (fun h => (Or.elim h (fun h => (Or.inr (Or.inr (Or.inr (Or.inr (Or.inr (Or.inr (Or.inl h)))))))) (fun h => (Or.elim h (fun h => (Or.inr (Or.inr (Or.inr (Or.inr (Or.inr (Or.inr (Or.inr (Or.inl h))))))))) (fun h => (Or.elim h (fun h => (Or.inr (Or.inr (Or.inr (Or.inr (Or.inr (Or.inr (Or.inr (Or.inr (Or.inl h)))))))))) (fun h => (Or.elim h (fun h => (Or.inr (Or.inr (Or.inr (Or.inr (Or.inr (Or.inr (Or.inr (Or.inr (Or.inr (Or.inl h))))))))))) (fun h => (Or.elim h (fun h => (Or.inr (Or.inr (Or.inr (Or.inr (Or.inr (Or.inr (Or.inr (Or.inr (Or.inr (Or.inr (Or.inl h)))))))))))) (fun h => (Or.elim h (fun h => (Or.inr (Or.inr (Or.inr (Or.inr (Or.inr (Or.inr (Or.inr (Or.inr (Or.inr (Or.inr (Or.inr (Or.inl h))))))))))))) (fun h => (Or.elim h (fun h => (Or.inr (Or.inr (Or.inr (Or.inr (Or.inr (Or.inr (Or.inr (Or.inr (Or.inr (Or.inr (Or.inr (Or.inr (Or.inl h)))))))))))))) (fun h => (Or.elim h (fun h => (Or.inr (Or.inr (Or.inr (Or.inr (Or.inr (Or.inr (Or.inr (Or.inr (Or.inr (Or.inr (Or.inr (Or.inr (Or.inr (Or.inl h))))))))))))))) (fun h => (Or.elim h (fun h => (Or.inr (Or.inr (Or.inr (Or.inr (Or.inr (Or.inr (Or.inr (Or.inr (Or.inr (Or.inr (Or.inr (Or.inr (Or.inr (Or.inr (Or.inl h)))))))))))))))) (fun h => (Or.elim h (fun h => (Or.inr (Or.inr (Or.inr (Or.inr (Or.inr (Or.inr (Or.inr (Or.inr (Or.inr (Or.inr (Or.inr (Or.inr (Or.inr (Or.inr (Or.inr (Or.inl h))))))))))))))))) (fun h => (Or.inr (Or.inr (Or.inl h))))))))))))))))))))))))))))))).trans (hug1.2 k j (fun h => hk (Or.inl h))))) (by decide) (by decide) (by omega) hE)
      · skip
        replace hE := zf_in hE c32_14
        refine mm_g 1 (pc1 := 36) (lo1 := [some (.ref 137), some (.int (Int32.ofInt a1))]) (st1 := [.int (Int32.ofInt 1)]) (H1 := mz_mk g12 x) rfl ?_
        refine mz_gt (tgt := 40) rfl rfl ?_
        exact mm_rt rfl rfl (hQ _ _ hIg12 (fun k j hk => ((hfg12 k j (fun h => hk (Or.elim h (fun h => (Or.inr (Or.inr (Or.inr (Or.inl h))))) (fun h => (Or.elim h (fun h => (Or.inr (Or.inr (Or.inr (Or.inr (Or.inl h)))))) (fun h => (Or.elim h (fun h => (Or.inr (Or.inr (Or.inr (Or.inr (Or.inr (Or.inl h))))))) (fun h => (Or.elim h (fun h => (Or.inr (Or.inr (Or.inr (Or.inr (Or.inr (Or.inr (Or.inl h)))))))) (fun h => (Or.elim h (fun h => (Or.inr (Or.inr (Or.inr (Or.inr (Or.inr (Or.inr (Or.inr (Or.inl h))))))))) (fun h => (Or.elim h (fun h => (Or.inr (Or.inr (Or.inr (Or.inr (Or.inr (Or.inr (Or.inr (Or.inr (Or.inl h)))))))))) (fun h => (Or.elim h (fun h => (Or.inr (Or.inr (Or.inr (Or.inr (Or.inr (Or.inr (Or.inr (Or.inr (Or.inr (Or.inl h))))))))))) (fun h => (Or.elim h (fun h => (Or.inr (Or.inr (Or.inr (Or.inr (Or.inr (Or.inr (Or.inr (Or.inr (Or.inr (Or.inr (Or.inl h)))))))))))) (fun h => (Or.elim h (fun h => (Or.inr (Or.inr (Or.inr (Or.inr (Or.inr (Or.inr (Or.inr (Or.inr (Or.inr (Or.inr (Or.inr (Or.inl h))))))))))))) (fun h => (Or.elim h (fun h => (Or.inr (Or.inr (Or.inr (Or.inr (Or.inr (Or.inr (Or.inr (Or.inr (Or.inr (Or.inr (Or.inr (Or.inr (Or.inl h)))))))))))))) (fun h => (Or.elim h (fun h => (Or.inr (Or.inr (Or.inr (Or.inr (Or.inr (Or.inr (Or.inr (Or.inr (Or.inr (Or.inr (Or.inr (Or.inr (Or.inr (Or.inl h))))))))))))))) (fun h => (Or.elim h (fun h => (Or.inr (Or.inr (Or.inr (Or.inr (Or.inr (Or.inr (Or.inr (Or.inr (Or.inr (Or.inr (Or.inr (Or.inr (Or.inr (Or.inr (Or.inl h)))))))))))))))) (fun h => (Or.elim h (fun h => (Or.inr (Or.inr (Or.inr (Or.inr (Or.inr (Or.inr (Or.inr (Or.inr (Or.inr (Or.inr (Or.inr (Or.inr (Or.inr (Or.inr (Or.inr (Or.inl h))))))))))))))))) (fun h => (Or.inr (Or.inr (Or.inl h))))))))))))))))))))))))))))))).trans (hug1.2 k j (fun h => hk (Or.inl h))))) (by decide) (by decide) (by omega) hE)
  · skip
    replace hE := zf_ip hE c14_4
    refine mm_g 2 (pc1 := 19) (lo1 := [some (.ref 137), some (.int (Int32.ofInt a1))]) (st1 := [.int (Int32.ofInt 1), .ref 137]) (H1 := mz_mk g1 x) rfl ?_
    refine mz_cv rfl mt_12_294 (by decide) (sc_137 _) rfl (Nat.le_of_ble_eq_true rfl) (by omega) (f_X12_fail (by omega) hx hIg1 (by decide) (by decide) (fun v15 g16 hIg16 hfg16 l_v15 u_v15 hc17 => ⟨_, rfl, ?_⟩))
    show mm_W d mmX12_loose 22 [some (.ref 137), some (.int (Int32.ofInt a1))] [.int (Int32.ofInt v15)] (mz_mk g16 x) Q
    replace hE := zf_t2 hE hc17
    exact mm_rt rfl rfl (hQ _ _ hIg16 (fun k j hk => ((hfg16 k j (fun h => hk (Or.inl h))).trans (hug1.2 k j (fun h => hk (Or.inl h))))) (by omega) (by omega) (by have h9 := (show g16 137 30 = (g 137 30) from ((hfg16 137 30 (fun h => (absurd (show (137 = 137 ∧ 30 = 2) from h) (by decide)))).trans ((hug1.2 137 30 (fun h => absurd h.2 (by decide))).trans rfl))); omega) hE)
def fl_X12_look_36 (x : mm_X) (a1 : Int) : Nat → Nat → Prop := fun k j => k = 171
def fl_X12_look_57 (x : mm_X) (a1 : Int) : Nat → Nat → Prop := fun k j => k = 155 ∨ (k = 160 ∧ j = 0) ∨ (k = 160 ∧ j = 1) ∨ (k = 160 ∧ j = 2) ∨ (k = 160 ∧ j = 3) ∨ (k = 160 ∧ j = 4) ∨ (k = 160 ∧ j = 5) ∨ (k = 160 ∧ j = 6) ∨ k = 161 ∨ k = 152 ∨ (k = 137 ∧ j = 30) ∨ k = 171 ∨ k = 153 ∨ k = 154
def fl_X12_look_96 (x : mm_X) (a1 : Int) : Nat → Nat → Prop := fun k j => k = 171
def fw_X12_look (x : mm_X) (a1 : Int) : Nat → Nat → Prop := fun k j => (k = 137 ∧ j = 2) ∨ (k = 137 ∧ j = 50) ∨ k = 155 ∨ k = 169 ∨ (k = 160 ∧ j = 0) ∨ (k = 160 ∧ j = 1) ∨ (k = 160 ∧ j = 2) ∨ (k = 160 ∧ j = 3) ∨ (k = 160 ∧ j = 4) ∨ (k = 160 ∧ j = 5) ∨ (k = 160 ∧ j = 6) ∨ k = 161 ∨ k = 152 ∨ (k = 137 ∧ j = 30) ∨ k = 153 ∨ k = 154 ∨ k = 170 ∨ k = 162 ∨ k = 171
theorem f_X12_look {d : Nat} (hd : 18 ≤ d) {x : mm_X} (hx : mk_x x) {g : mz_G} (hI : mz_inv g) {a1 : Int} (l_a1 : (-2147483648) ≤ a1) (u_a1 : a1 ≤ 2147483647) (p1 : mz_pv g) (p2 : g 137 30 ≤ 999) {Q : (Option Value ⊕ Nat) → mm_H → Prop} (hQ : ∀ (r : Int) (g1 : mz_G), mz_inv g1 → mz_fr (fw_X12_look x a1) g g1 → (-2147483648) ≤ r → r ≤ 2147483647 → (g1 137 30 ≤ 999) → zf_E (zF_X12_look a1 g) ((r, g1)) → Q (.inl (some (.int (Int32.ofInt r)))) (mz_mk g1 x)) : mm_C d 282 [.ref 137, .int (Int32.ofInt a1)] (mz_mk g x) Q := by
  refine ⟨mmX12_look, [some (.ref 137), some (.int (Int32.ofInt a1)), none, none, none], rfl, rfl, ?_⟩
  have bz0 := mz_rd hI bd_137_30
  have hpv := p1
  have hE : zf_E (zF_X12_look a1 g) (zF_X12_look a1 g) := zf_rf
  refine mm_g 2 (pc1 := 2) (lo1 := [some (.ref 137), some (.int (Int32.ofInt a1)), none, none, none]) (st1 := [.int (Int32.ofInt 0), .ref 137]) (H1 := mz_mk g x) rfl ?_
  refine mz_pI rfl fd_12_154 (sc_137 _) hI bd_137_2 (by omega) (by omega) (fun g1 hIg1 hug1 => ?_)
  replace hE := zf_tr hE (zf_lg hug1)
  refine mm_g 1 (pc1 := 6) (lo1 := [some (.ref 137), some (.int (Int32.ofInt a1)), none, none, none]) (st1 := [.int (Int32.ofInt a1)]) (H1 := mz_mk g1 x) rfl ?_
  refine mz_i2l rfl (mz_rg l_a1 u_a1) ?_
  refine mz_lcst (c := 0) rfl rfl ?_
  refine mz_lcst (c := 1) rfl rfl ?_
  refine mz_cs rfl mt_12_157 (by decide) rfl (Nat.le_of_ble_eq_true rfl) (by omega) (f_X12_isIn (by omega) hx hIg1 (by omega) (by omega) (by omega) (by omega) (by omega) (by omega) (fun v2 l_v2 u_v2 hp3 hc4 => ⟨_, rfl, ?_⟩))
  show mm_W d mmX12_look 12 [some (.ref 137), some (.int (Int32.ofInt a1)), none, none, none] [.int (Int32.ofInt v2)] (mz_mk g1 x) Q
  replace hE := zf_t1 hE hc4
  refine mz_if_ne (tgt := 21) rfl rfl (mz_rg l_v2 u_v2) (fun c12_4 => ?_) (fun c12_4 => ?_)
  · skip
    replace hE := zf_in hE c12_4
    refine mm_g 1 (pc1 := 22) (lo1 := [some (.ref 137), some (.int (Int32.ofInt a1)), none, none, none]) (st1 := [.ref 137]) (H1 := mz_mk g1 x) rfl ?_
    refine mz_cv rfl mt_12_481 (by decide) (sc_137 _) rfl (Nat.le_of_ble_eq_true rfl) (by omega) (f_X12_tellFits (by omega) hx hIg1 (mz_pv_fr hpv (fun _j => ((hug1.2 149 _j (fun h => absurd h.1 (by decide))).trans rfl)) ((hug1.2 140 3 (fun h => absurd h.1 (by decide))).trans rfl)) (by have h9 := (show g1 137 30 = (g 137 30) from ((hug1.2 137 30 (fun h => absurd h.2 (by decide))).trans rfl)); omega) (fun g5 hIg5 hfg5 hp6 hc7 => ⟨_, rfl, ?_⟩))
    show mm_W d mmX12_look 25 [some (.ref 137), some (.int (Int32.ofInt a1)), none, none, none] [] (mz_mk g5 x) Q
    replace hE := zf_t1 hE hc7
    refine mm_g 2 (pc1 := 27) (lo1 := [some (.ref 137), some (.int (Int32.ofInt a1)), none, none, none]) (st1 := [.ref 137, .ref 137]) (H1 := mz_mk g5 x) rfl ?_
    refine mz_fgR (v := 162) rfl fd_12_103 (by decide) (sc_137 _) (rf_137_40 _ _ _) ?_
    refine mm_g 1 (pc1 := 31) (lo1 := [some (.ref 137), some (.int (Int32.ofInt a1)), none, none, none]) (st1 := [.int (Int32.ofInt 0), .ref 162, .ref 137]) (H1 := mz_mk g5 x) rfl ?_
    refine mz_cv rfl mt_12_397 (by decide) (sc_137 _) rfl (Nat.le_of_ble_eq_true rfl) (by omega) (f_X12_store (by omega) hx hIg5 rwp_162 (by decide) (by decide) (by omega) (by omega) (by omega) (fun g8 hIg8 hfg8 hc9 => ⟨_, rfl, ?_⟩))
    show mm_W d mmX12_look 34 [some (.ref 137), some (.int (Int32.ofInt a1)), none, none, none] [] (mz_mk g8 x) Q
    replace hE := zf_t1 hE hc9
    refine mm_g 2 (pc1 := 36) (lo1 := [some (.ref 137), some (.int (Int32.ofInt a1)), some (.int (Int32.ofInt 0)), none, none]) (st1 := []) (H1 := mz_mk g8 x) rfl ?_
    have L14 : ∀ n13 : Nat, ∀ (v10 : Int) (g11 : mz_G), (6 - v10).toNat = n13 → 0 ≤ v10 → v10 ≤ 6 → mz_inv g11 → mz_fr (fl_X12_look_36 x a1) g8 g11 → (∃ fk : Nat, (6 - v10).toNat < fk ∧ zf_E (zF_X12_look a1 g) (zL_X12_look_36 a1 fk v10 g11)) → mm_W d mmX12_look 36 [some (.ref 137), some (.int (Int32.ofInt a1)), some (.int (Int32.ofInt v10)), none, none] [] (mz_mk g11 x) Q := by
      intro n13
      induction n13 using Nat.strongRecOn with
      | ind n13 ih12 =>
      intro v10 g11 hmn13 l_v10 u_v10 hIg11 hfg11 hF
      obtain ⟨fk, fl, hE⟩ := hF
      obtain ⟨fj15, rfl⟩ : ∃ fj, fk = fj + 1 := ⟨fk - 1, by omega⟩
      have fn16 : n13 ≤ fj15 := by omega
      replace hE := zf_tr hE zL_X12_look_36_s
      refine mm_g 1 (pc1 := 37) (lo1 := [some (.ref 137), some (.int (Int32.ofInt a1)), some (.int (Int32.ofInt v10)), none, none]) (st1 := [.int (Int32.ofInt v10)]) (H1 := mz_mk g11 x) rfl ?_
      refine mz_bip rfl bip_6 ?_
      refine mz_ic_ge (tgt := 55) rfl rfl (mz_rg l_v10 u_v10) ⟨by decide, by decide⟩ (fun c39_16 => ?_) (fun c39_16 => ?_)
      · skip
        replace hE := zf_nl hE c39_16
        refine mm_g 2 (pc1 := 57) (lo1 := [some (.ref 137), some (.int (Int32.ofInt a1)), some (.int (Int32.ofInt 0)), none, none]) (st1 := []) (H1 := mz_mk g11 x) rfl ?_
        have L22 : ∀ n21 : Nat, ∀ (v17 : Int) (o18 : Option Value) (g19 : mz_G), (60 - v17).toNat = n21 → 0 ≤ v17 → v17 ≤ 60 → mz_nl o18 → mz_inv g19 → mz_fr (fl_X12_look_57 x a1) g11 g19 → (g19 137 30 ≤ 999) → (∃ fk : Nat, (60 - v17).toNat < fk ∧ zf_E (zF_X12_look a1 g) (zL_X12_look_57 a1 fk v17 g19)) → mm_W d mmX12_look 57 [some (.ref 137), some (.int (Int32.ofInt a1)), some (.int (Int32.ofInt v17)), o18, none] [] (mz_mk g19 x) Q := by
          intro n21
          induction n21 using Nat.strongRecOn with
          | ind n21 ih20 =>
          intro v17 o18 g19 hmn21 l_v17 u_v17 h_o18 hIg19 hfg19 hv23 hF
          obtain ⟨fk, fl, hE⟩ := hF
          obtain ⟨fj24, rfl⟩ : ∃ fj, fk = fj + 1 := ⟨fk - 1, by omega⟩
          have fn25 : n21 ≤ fj24 := by omega
          replace hE := zf_tr hE zL_X12_look_57_s
          have bz_g19_30 := mz_rd hIg19 bd_137_30
          refine mm_g 2 (pc1 := 59) (lo1 := [some (.ref 137), some (.int (Int32.ofInt a1)), some (.int (Int32.ofInt v17)), o18, none]) (st1 := [.ref 137, .int (Int32.ofInt v17)]) (H1 := mz_mk g19 x) rfl ?_
          refine mz_gI rfl fd_12_475 (by decide) (sc_137 _) hIg19 bd_137_50 (fun v26 e_v26 l_v26 u_v26 => ?_)
          replace hE := zf_tr hE (zf_le e_v26)
          refine mz_ic_ge (tgt := 144) rfl rfl (mz_rg l_v17 u_v17) (mz_rg l_v26 u_v26) (fun c62_26 => ?_) (fun c62_26 => ?_)
          · skip
            replace hE := zf_nl hE c62_26
            refine mm_g 6 (pc1 := 151) (lo1 := [some (.ref 137), some (.int (Int32.ofInt a1)), some (.int (Int32.ofInt (-1))), some (.int (Int32.ofInt 0)), some (.int (Int32.ofInt 0))]) (st1 := []) (H1 := mz_mk g19 x) rfl ?_
            have L33 : ∀ n32 : Nat, ∀ (v27 : Int) (v28 : Int) (v29 : Int), (6 - v29).toNat = n32 → (-1) ≤ v27 → v27 ≤ 5 → (-2147483648) ≤ v28 → v28 ≤ 2147483647 → 0 ≤ v29 → v29 ≤ 6 → (∃ fk : Nat, (6 - v29).toNat < fk ∧ zf_E (zF_X12_look a1 g) (zL_X12_look_151 a1 g19 fk v27 v28 v29)) → mm_W d mmX12_look 151 [some (.ref 137), some (.int (Int32.ofInt a1)), some (.int (Int32.ofInt v27)), some (.int (Int32.ofInt v28)), some (.int (Int32.ofInt v29))] [] (mz_mk g19 x) Q := by
              intro n32
              induction n32 using Nat.strongRecOn with
              | ind n32 ih31 =>
              intro v27 v28 v29 hmn32 l_v27 u_v27 l_v28 u_v28 l_v29 u_v29 hF
              obtain ⟨fk, fl, hE⟩ := hF
              obtain ⟨fj34, rfl⟩ : ∃ fj, fk = fj + 1 := ⟨fk - 1, by omega⟩
              have fn35 : n32 ≤ fj34 := by omega
              replace hE := zf_tr hE zL_X12_look_151_s
              refine mm_g 2 (pc1 := 154) (lo1 := [some (.ref 137), some (.int (Int32.ofInt a1)), some (.int (Int32.ofInt v27)), some (.int (Int32.ofInt v28)), some (.int (Int32.ofInt v29))]) (st1 := [.ref 137, .int (Int32.ofInt v29)]) (H1 := mz_mk g19 x) rfl ?_
              refine mz_fgR (v := 140) rfl fd_12_36 (by decide) (sc_137 _) (rf_137_3 _ _ _) ?_
              refine mm_g 1 (pc1 := 158) (lo1 := [some (.ref 137), some (.int (Int32.ofInt a1)), some (.int (Int32.ofInt v27)), some (.int (Int32.ofInt v28)), some (.int (Int32.ofInt v29))]) (st1 := [.int (Int32.ofInt 1), .ref 140, .int (Int32.ofInt v29)]) (H1 := mz_mk g19 x) rfl ?_
              refine mz_aI rfl (sh_140 _) (by omega) (by omega) (by decide) hIg19 bt_140_1 (fun v36 e_v36 l_v36 u_v36 => ?_)
              have e_v36 : g19 140 1 = v36 := e_v36
              replace hE := zf_tr hE (zf_le e_v36)
              refine mz_ic_ge (tgt := 199) rfl rfl (mz_rg l_v29 u_v29) (mz_rg l_v36 u_v36) (fun c159_36 => ?_) (fun c159_36 => ?_)
              · skip
                replace hE := zf_nl hE c159_36
                refine mm_g 1 (pc1 := 200) (lo1 := [some (.ref 137), some (.int (Int32.ofInt a1)), some (.int (Int32.ofInt v27)), some (.int (Int32.ofInt v28)), some (.int (Int32.ofInt v29))]) (st1 := [.int (Int32.ofInt a1)]) (H1 := mz_mk g19 x) rfl ?_
                refine mz_if_ne (tgt := 207) rfl rfl (mz_rg l_a1 u_a1) (fun c200_36 => ?_) (fun c200_36 => ?_)
                · skip
                  replace hE := zf_in hE c200_36
                  refine mm_g 1 (pc1 := 208) (lo1 := [some (.ref 137), some (.int (Int32.ofInt a1)), some (.int (Int32.ofInt v27)), some (.int (Int32.ofInt v28)), some (.int (Int32.ofInt v29))]) (st1 := [.int (Int32.ofInt v28)]) (H1 := mz_mk g19 x) rfl ?_
                  exact mm_rt rfl rfl (hQ _ _ hIg19 (fun k j hk => ((hfg19 k j (fun h => hk (Or.elim h (fun h => (Or.inr (Or.inr (Or.inl h)))) (fun h => (Or.elim h (fun h => (Or.inr (Or.inr (Or.inr (Or.inr (Or.inl h)))))) (fun h => (Or.elim h (fun h => (Or.inr (Or.inr (Or.inr (Or.inr (Or.inr (Or.inl h))))))) (fun h => (Or.elim h (fun h => (Or.inr (Or.inr (Or.inr (Or.inr (Or.inr (Or.inr (Or.inl h)))))))) (fun h => (Or.elim h (fun h => (Or.inr (Or.inr (Or.inr (Or.inr (Or.inr (Or.inr (Or.inr (Or.inl h))))))))) (fun h => (Or.elim h (fun h => (Or.inr (Or.inr (Or.inr (Or.inr (Or.inr (Or.inr (Or.inr (Or.inr (Or.inl h)))))))))) (fun h => (Or.elim h (fun h => (Or.inr (Or.inr (Or.inr (Or.inr (Or.inr (Or.inr (Or.inr (Or.inr (Or.inr (Or.inl h))))))))))) (fun h => (Or.elim h (fun h => (Or.inr (Or.inr (Or.inr (Or.inr (Or.inr (Or.inr (Or.inr (Or.inr (Or.inr (Or.inr (Or.inl h)))))))))))) (fun h => (Or.elim h (fun h => (Or.inr (Or.inr (Or.inr (Or.inr (Or.inr (Or.inr (Or.inr (Or.inr (Or.inr (Or.inr (Or.inr (Or.inl h))))))))))))) (fun h => (Or.elim h (fun h => (Or.inr (Or.inr (Or.inr (Or.inr (Or.inr (Or.inr (Or.inr (Or.inr (Or.inr (Or.inr (Or.inr (Or.inr (Or.inl h)))))))))))))) (fun h => (Or.elim h (fun h => (Or.inr (Or.inr (Or.inr (Or.inr (Or.inr (Or.inr (Or.inr (Or.inr (Or.inr (Or.inr (Or.inr (Or.inr (Or.inr (Or.inl h))))))))))))))) (fun h => (Or.elim h (fun h => (Or.inr (Or.inr (Or.inr (Or.inr (Or.inr (Or.inr (Or.inr (Or.inr (Or.inr (Or.inr (Or.inr (Or.inr (Or.inr (Or.inr (Or.inr (Or.inr (Or.inr (Or.inr h))))))))))))))))))) (fun h => (Or.elim h (fun h => (Or.inr (Or.inr (Or.inr (Or.inr (Or.inr (Or.inr (Or.inr (Or.inr (Or.inr (Or.inr (Or.inr (Or.inr (Or.inr (Or.inr (Or.inl h)))))))))))))))) (fun h => (Or.inr (Or.inr (Or.inr (Or.inr (Or.inr (Or.inr (Or.inr (Or.inr (Or.inr (Or.inr (Or.inr (Or.inr (Or.inr (Or.inr (Or.inr (Or.inl h)))))))))))))))))))))))))))))))))))))))))))).trans ((hfg11 k j (fun h => hk (Or.inr (Or.inr (Or.inr (Or.inr (Or.inr (Or.inr (Or.inr (Or.inr (Or.inr (Or.inr (Or.inr (Or.inr (Or.inr (Or.inr (Or.inr (Or.inr (Or.inr (Or.inr h)))))))))))))))))))).trans ((hfg8 k j (fun h => hk (Or.inr (Or.inr (Or.inr (Or.inr (Or.inr (Or.inr (Or.inr (Or.inr (Or.inr (Or.inr (Or.inr (Or.inr (Or.inr (Or.inr (Or.inr (Or.inr (Or.inr (Or.inl h)))))))))))))))))))).trans ((hfg5 k j (fun h => hk (Or.elim h (fun h => (Or.inr (Or.inl h))) (fun h => (Or.elim h (fun h => (Or.inr (Or.inr (Or.inl h)))) (fun h => (Or.elim h (fun h => (Or.inr (Or.inr (Or.inr (Or.inl h))))) (fun h => (Or.elim h (fun h => (Or.inr (Or.inr (Or.inr (Or.inr (Or.inl h)))))) (fun h => (Or.elim h (fun h => (Or.inr (Or.inr (Or.inr (Or.inr (Or.inr (Or.inl h))))))) (fun h => (Or.elim h (fun h => (Or.inr (Or.inr (Or.inr (Or.inr (Or.inr (Or.inr (Or.inl h)))))))) (fun h => (Or.elim h (fun h => (Or.inr (Or.inr (Or.inr (Or.inr (Or.inr (Or.inr (Or.inr (Or.inl h))))))))) (fun h => (Or.elim h (fun h => (Or.inr (Or.inr (Or.inr (Or.inr (Or.inr (Or.inr (Or.inr (Or.inr (Or.inl h)))))))))) (fun h => (Or.elim h (fun h => (Or.inr (Or.inr (Or.inr (Or.inr (Or.inr (Or.inr (Or.inr (Or.inr (Or.inr (Or.inl h))))))))))) (fun h => (Or.elim h (fun h => (Or.inr (Or.inr (Or.inr (Or.inr (Or.inr (Or.inr (Or.inr (Or.inr (Or.inr (Or.inr (Or.inl h)))))))))))) (fun h => (Or.elim h (fun h => (Or.inr (Or.inr (Or.inr (Or.inr (Or.inr (Or.inr (Or.inr (Or.inr (Or.inr (Or.inr (Or.inr (Or.inl h))))))))))))) (fun h => (Or.elim h (fun h => (Or.inr (Or.inr (Or.inr (Or.inr (Or.inr (Or.inr (Or.inr (Or.inr (Or.inr (Or.inr (Or.inr (Or.inr (Or.inl h)))))))))))))) (fun h => (Or.elim h (fun h => (Or.inr (Or.inr (Or.inr (Or.inr (Or.inr (Or.inr (Or.inr (Or.inr (Or.inr (Or.inr (Or.inr (Or.inr (Or.inr (Or.inl h))))))))))))))) (fun h => (Or.elim h (fun h => (Or.inr (Or.inr (Or.inr (Or.inr (Or.inr (Or.inr (Or.inr (Or.inr (Or.inr (Or.inr (Or.inr (Or.inr (Or.inr (Or.inr (Or.inl h)))))))))))))))) (fun h => (Or.elim h (fun h => (Or.inr (Or.inr (Or.inr (Or.inr (Or.inr (Or.inr (Or.inr (Or.inr (Or.inr (Or.inr (Or.inr (Or.inr (Or.inr (Or.inr (Or.inr (Or.inl h))))))))))))))))) (fun h => (Or.inr (Or.inr (Or.inr (Or.inr (Or.inr (Or.inr (Or.inr (Or.inr (Or.inr (Or.inr (Or.inr (Or.inr (Or.inr (Or.inr (Or.inr (Or.inr (Or.inl h))))))))))))))))))))))))))))))))))))))))))))))))).trans (hug1.2 k j (fun h => hk (Or.inl h)))))))) (by omega) (by omega) (by omega) hE)
                · skip
                  replace hE := zf_ip hE c200_36
                  refine mm_g 1 (pc1 := 204) (lo1 := [some (.ref 137), some (.int (Int32.ofInt a1)), some (.int (Int32.ofInt v27)), some (.int (Int32.ofInt v28)), some (.int (Int32.ofInt v29))]) (st1 := [.int (Int32.ofInt v27)]) (H1 := mz_mk g19 x) rfl ?_
                  refine mz_gt (tgt := 208) rfl rfl ?_
                  exact mm_rt rfl rfl (hQ _ _ hIg19 (fun k j hk => ((hfg19 k j (fun h => hk (Or.elim h (fun h => (Or.inr (Or.inr (Or.inl h)))) (fun h => (Or.elim h (fun h => (Or.inr (Or.inr (Or.inr (Or.inr (Or.inl h)))))) (fun h => (Or.elim h (fun h => (Or.inr (Or.inr (Or.inr (Or.inr (Or.inr (Or.inl h))))))) (fun h => (Or.elim h (fun h => (Or.inr (Or.inr (Or.inr (Or.inr (Or.inr (Or.inr (Or.inl h)))))))) (fun h => (Or.elim h (fun h => (Or.inr (Or.inr (Or.inr (Or.inr (Or.inr (Or.inr (Or.inr (Or.inl h))))))))) (fun h => (Or.elim h (fun h => (Or.inr (Or.inr (Or.inr (Or.inr (Or.inr (Or.inr (Or.inr (Or.inr (Or.inl h)))))))))) (fun h => (Or.elim h (fun h => (Or.inr (Or.inr (Or.inr (Or.inr (Or.inr (Or.inr (Or.inr (Or.inr (Or.inr (Or.inl h))))))))))) (fun h => (Or.elim h (fun h => (Or.inr (Or.inr (Or.inr (Or.inr (Or.inr (Or.inr (Or.inr (Or.inr (Or.inr (Or.inr (Or.inl h)))))))))))) (fun h => (Or.elim h (fun h => (Or.inr (Or.inr (Or.inr (Or.inr (Or.inr (Or.inr (Or.inr (Or.inr (Or.inr (Or.inr (Or.inr (Or.inl h))))))))))))) (fun h => (Or.elim h (fun h => (Or.inr (Or.inr (Or.inr (Or.inr (Or.inr (Or.inr (Or.inr (Or.inr (Or.inr (Or.inr (Or.inr (Or.inr (Or.inl h)))))))))))))) (fun h => (Or.elim h (fun h => (Or.inr (Or.inr (Or.inr (Or.inr (Or.inr (Or.inr (Or.inr (Or.inr (Or.inr (Or.inr (Or.inr (Or.inr (Or.inr (Or.inl h))))))))))))))) (fun h => (Or.elim h (fun h => (Or.inr (Or.inr (Or.inr (Or.inr (Or.inr (Or.inr (Or.inr (Or.inr (Or.inr (Or.inr (Or.inr (Or.inr (Or.inr (Or.inr (Or.inr (Or.inr (Or.inr (Or.inr h))))))))))))))))))) (fun h => (Or.elim h (fun h => (Or.inr (Or.inr (Or.inr (Or.inr (Or.inr (Or.inr (Or.inr (Or.inr (Or.inr (Or.inr (Or.inr (Or.inr (Or.inr (Or.inr (Or.inl h)))))))))))))))) (fun h => (Or.inr (Or.inr (Or.inr (Or.inr (Or.inr (Or.inr (Or.inr (Or.inr (Or.inr (Or.inr (Or.inr (Or.inr (Or.inr (Or.inr (Or.inr (Or.inl h)))))))))))))))))))))))))))))))))))))))))))).trans ((hfg11 k j (fun h => hk (Or.inr (Or.inr (Or.inr (Or.inr (Or.inr (Or.inr (Or.inr (Or.inr (Or.inr (Or.inr (Or.inr (Or.inr (Or.inr (Or.inr (Or.inr (Or.inr (Or.inr (Or.inr h)))))))))))))))))))).trans ((hfg8 k j (fun h => hk (Or.inr (Or.inr (Or.inr (Or.inr (Or.inr (Or.inr (Or.inr (Or.inr (Or.inr (Or.inr (Or.inr (Or.inr (Or.inr (Or.inr (Or.inr (Or.inr (Or.inr (Or.inl h)))))))))))))))))))).trans ((hfg5 k j (fun h => hk (Or.elim h (fun h => (Or.inr (Or.inl h))) (fun h => (Or.elim h (fun h => (Or.inr (Or.inr (Or.inl h)))) (fun h => (Or.elim h (fun h => (Or.inr (Or.inr (Or.inr (Or.inl h))))) (fun h => (Or.elim h (fun h => (Or.inr (Or.inr (Or.inr (Or.inr (Or.inl h)))))) (fun h => (Or.elim h (fun h => (Or.inr (Or.inr (Or.inr (Or.inr (Or.inr (Or.inl h))))))) (fun h => (Or.elim h (fun h => (Or.inr (Or.inr (Or.inr (Or.inr (Or.inr (Or.inr (Or.inl h)))))))) (fun h => (Or.elim h (fun h => (Or.inr (Or.inr (Or.inr (Or.inr (Or.inr (Or.inr (Or.inr (Or.inl h))))))))) (fun h => (Or.elim h (fun h => (Or.inr (Or.inr (Or.inr (Or.inr (Or.inr (Or.inr (Or.inr (Or.inr (Or.inl h)))))))))) (fun h => (Or.elim h (fun h => (Or.inr (Or.inr (Or.inr (Or.inr (Or.inr (Or.inr (Or.inr (Or.inr (Or.inr (Or.inl h))))))))))) (fun h => (Or.elim h (fun h => (Or.inr (Or.inr (Or.inr (Or.inr (Or.inr (Or.inr (Or.inr (Or.inr (Or.inr (Or.inr (Or.inl h)))))))))))) (fun h => (Or.elim h (fun h => (Or.inr (Or.inr (Or.inr (Or.inr (Or.inr (Or.inr (Or.inr (Or.inr (Or.inr (Or.inr (Or.inr (Or.inl h))))))))))))) (fun h => (Or.elim h (fun h => (Or.inr (Or.inr (Or.inr (Or.inr (Or.inr (Or.inr (Or.inr (Or.inr (Or.inr (Or.inr (Or.inr (Or.inr (Or.inl h)))))))))))))) (fun h => (Or.elim h (fun h => (Or.inr (Or.inr (Or.inr (Or.inr (Or.inr (Or.inr (Or.inr (Or.inr (Or.inr (Or.inr (Or.inr (Or.inr (Or.inr (Or.inl h))))))))))))))) (fun h => (Or.elim h (fun h => (Or.inr (Or.inr (Or.inr (Or.inr (Or.inr (Or.inr (Or.inr (Or.inr (Or.inr (Or.inr (Or.inr (Or.inr (Or.inr (Or.inr (Or.inl h)))))))))))))))) (fun h => (Or.elim h (fun h => (Or.inr (Or.inr (Or.inr (Or.inr (Or.inr (Or.inr (Or.inr (Or.inr (Or.inr (Or.inr (Or.inr (Or.inr (Or.inr (Or.inr (Or.inr (Or.inl h))))))))))))))))) (fun h => (Or.inr (Or.inr (Or.inr (Or.inr (Or.inr (Or.inr (Or.inr (Or.inr (Or.inr (Or.inr (Or.inr (Or.inr (Or.inr (Or.inr (Or.inr (Or.inr (Or.inl h))))))))))))))))))))))))))))))))))))))))))))))))).trans (hug1.2 k j (fun h => hk (Or.inl h)))))))) (by omega) (by omega) (by omega) hE)
              · skip
                replace hE := zf_ip hE c159_36
                refine mm_g 1 (pc1 := 163) (lo1 := [some (.ref 137), some (.int (Int32.ofInt a1)), some (.int (Int32.ofInt v27)), some (.int (Int32.ofInt v28)), some (.int (Int32.ofInt v29))]) (st1 := [.ref 137]) (H1 := mz_mk g19 x) rfl ?_
                refine mz_fgR (v := 171) rfl fd_12_130 (by decide) (sc_137 _) (rf_137_49 _ _ _) ?_
                refine mm_g 1 (pc1 := 168) (lo1 := [some (.ref 137), some (.int (Int32.ofInt a1)), some (.int (Int32.ofInt v27)), some (.int (Int32.ofInt v28)), some (.int (Int32.ofInt v29))]) (st1 := [.int (Int32.ofInt v29), .ref 171]) (H1 := mz_mk g19 x) rfl ?_
                refine mz_aI rfl (sh_171 _) (by omega) (by omega) (by decide) hIg19 (ba_171 _) (fun v37 e_v37 l_v37 u_v37 => ?_)
                replace hE := zf_tr hE (zf_le e_v37)
                refine mz_cs rfl mt_12_484 (by decide) rfl (Nat.le_of_ble_eq_true rfl) (by omega) (f_X12_bitsOf (by omega) hx hIg19 (by omega) (by omega) (fun v38 l_v38 u_v38 hc39 => ⟨_, rfl, ?_⟩))
                show mm_W d mmX12_look 172 [some (.ref 137), some (.int (Int32.ofInt a1)), some (.int (Int32.ofInt v27)), some (.int (Int32.ofInt v28)), some (.int (Int32.ofInt v29))] [.int (Int32.ofInt v38)] (mz_mk g19 x) Q
                replace hE := zf_t1 hE hc39
                refine mm_g 1 (pc1 := 173) (lo1 := [some (.ref 137), some (.int (Int32.ofInt a1)), some (.int (Int32.ofInt v27)), some (.int (Int32.ofInt v28)), some (.int (Int32.ofInt v29))]) (st1 := [.int (Int32.ofInt v28), .int (Int32.ofInt v38)]) (H1 := mz_mk g19 x) rfl ?_
                refine mz_ic_gt (tgt := 179) rfl rfl (mz_rg l_v38 u_v38) (mz_rg l_v28 u_v28) (fun c173_39 => ?_) (fun c173_39 => ?_)
                · skip
                  replace hE := zf_ip hE c173_39
                  refine mm_g 3 (pc1 := 183) (lo1 := [some (.ref 137), some (.int (Int32.ofInt a1)), some (.int (Int32.ofInt v29)), some (.int (Int32.ofInt v28)), some (.int (Int32.ofInt v29))]) (st1 := [.ref 137]) (H1 := mz_mk g19 x) rfl ?_
                  refine mz_fgR (v := 171) rfl fd_12_130 (by decide) (sc_137 _) (rf_137_49 _ _ _) ?_
                  refine mm_g 1 (pc1 := 188) (lo1 := [some (.ref 137), some (.int (Int32.ofInt a1)), some (.int (Int32.ofInt v29)), some (.int (Int32.ofInt v28)), some (.int (Int32.ofInt v29))]) (st1 := [.int (Int32.ofInt v29), .ref 171]) (H1 := mz_mk g19 x) rfl ?_
                  refine mz_ia (v := v37) rfl (sh_171 _) (by omega) (by omega) (by decide) e_v37 ?_
                  replace hE := zf_tr hE (zf_le e_v37)
                  refine mz_cs rfl mt_12_484 (by decide) rfl (Nat.le_of_ble_eq_true rfl) (by omega) (f_X12_bitsOf (by omega) hx hIg19 (by omega) (by omega) (fun v40 l_v40 u_v40 hc41 => ⟨_, rfl, ?_⟩))
                  show mm_W d mmX12_look 192 [some (.ref 137), some (.int (Int32.ofInt a1)), some (.int (Int32.ofInt v29)), some (.int (Int32.ofInt v28)), some (.int (Int32.ofInt v29))] [.int (Int32.ofInt v40)] (mz_mk g19 x) Q
                  replace hE := zf_t1 hE hc41
                  refine mm_g 1 (pc1 := 193) (lo1 := [some (.ref 137), some (.int (Int32.ofInt a1)), some (.int (Int32.ofInt v29)), some (.int (Int32.ofInt v40)), some (.int (Int32.ofInt v29))]) (st1 := []) (H1 := mz_mk g19 x) rfl ?_
                  refine mz_iincR (v := v29) (lo2 := [some (.ref 137), some (.int (Int32.ofInt a1)), some (.int (Int32.ofInt v29)), some (.int (Int32.ofInt v40)), some (.int (Int32.ofInt (v29 + 1)))]) rfl rfl rfl (Nat.le_of_ble_eq_true rfl) rfl ?_
                  refine mz_gt (tgt := 151) rfl rfl ?_
                  exact ih31 ((6 - (v29 + 1)).toNat) (by omega) v29 v40 (v29 + 1) rfl (by omega) (by omega) (by omega) (by omega) (by omega) (by omega) ⟨fj34, Nat.lt_of_lt_of_le (show ((6 - (v29 + 1)).toNat) < n32 from (by omega)) fn35, hE⟩
                · skip
                  replace hE := zf_nl hE c173_39
                  refine mz_gt (tgt := 193) rfl rfl ?_
                  refine mz_iincR (v := v29) (lo2 := [some (.ref 137), some (.int (Int32.ofInt a1)), some (.int (Int32.ofInt v27)), some (.int (Int32.ofInt v28)), some (.int (Int32.ofInt (v29 + 1)))]) rfl rfl rfl (Nat.le_of_ble_eq_true rfl) rfl ?_
                  refine mz_gt (tgt := 151) rfl rfl ?_
                  exact ih31 ((6 - (v29 + 1)).toNat) (by omega) v27 v28 (v29 + 1) rfl (by omega) (by omega) (by omega) (by omega) (by omega) (by omega) ⟨fj34, Nat.lt_of_lt_of_le (show ((6 - (v29 + 1)).toNat) < n32 from (by omega)) fn35, hE⟩
            exact L33 _ (-1) 0 0 rfl (by decide) (by decide) (by decide) (by decide) (by decide) (by decide) ⟨3000000000, by omega, hE⟩
          · skip
            replace hE := zf_ip hE c62_26
            refine mm_g 1 (pc1 := 66) (lo1 := [some (.ref 137), some (.int (Int32.ofInt a1)), some (.int (Int32.ofInt v17)), o18, none]) (st1 := [.ref 137]) (H1 := mz_mk g19 x) rfl ?_
            refine mz_fgR (v := 155) rfl fd_12_82 (by decide) (sc_137 _) (rf_137_28 _ _ _) ?_
            refine mm_g 1 (pc1 := 70) (lo1 := [some (.ref 137), some (.int (Int32.ofInt a1)), some (.int (Int32.ofInt v17)), o18, none]) (st1 := [.ref 137, .ref 155]) (H1 := mz_mk g19 x) rfl ?_
            refine mz_fgR (v := 170) rfl fd_12_127 (by decide) (sc_137 _) (rf_137_48 _ _ _) ?_
            refine mm_g 1 (pc1 := 74) (lo1 := [some (.ref 137), some (.int (Int32.ofInt a1)), some (.int (Int32.ofInt v17)), o18, none]) (st1 := [.int (Int32.ofInt v17), .ref 170, .ref 155]) (H1 := mz_mk g19 x) rfl ?_
            refine mz_aI rfl (sh_170 _) (by omega) (by omega) (by decide) hIg19 (ba_170 _) (fun v42 e_v42 l_v42 u_v42 => ?_)
            replace hE := zf_tr hE (zf_le e_v42)
            refine mz_bip rfl bip_10 ?_
            refine mz_idivp rfl (mz_rg l_v42 u_v42) ⟨by decide, by decide⟩ (by omega) (by omega) (fun v43 e_v43 => ?_)
            have l_v43 : 0 ≤ v43 := by omega
            have u_v43 : v43 ≤ 5 := by omega
            replace hE := zf_tr hE (zf_le e_v43.symm)
            refine mm_g 1 (pc1 := 79) (lo1 := [some (.ref 137), some (.int (Int32.ofInt a1)), some (.int (Int32.ofInt v17)), o18, none]) (st1 := [.ref 137, .int (Int32.ofInt v43), .ref 155]) (H1 := mz_mk g19 x) rfl ?_
            refine mz_fgR (v := 170) rfl fd_12_127 (by decide) (sc_137 _) (rf_137_48 _ _ _) ?_
            refine mm_g 1 (pc1 := 83) (lo1 := [some (.ref 137), some (.int (Int32.ofInt a1)), some (.int (Int32.ofInt v17)), o18, none]) (st1 := [.int (Int32.ofInt v17), .ref 170, .int (Int32.ofInt v43), .ref 155]) (H1 := mz_mk g19 x) rfl ?_
            refine mz_ia (v := v42) rfl (sh_170 _) (by omega) (by omega) (by decide) e_v42 ?_
            replace hE := zf_tr hE (zf_le e_v42)
            refine mz_bip rfl bip_10 ?_
            refine mz_iremq rfl (mz_rg l_v42 u_v42) ⟨by decide, by decide⟩ (by omega) (by omega) (fun v44 e_v44 l_v44 w_v44 z_v44 => ?_)
            have u_v44 : v44 ≤ 9 := by omega
            replace hE := zf_tr hE (zf_le e_v44.symm)
            refine mz_sI rfl (sh_155 _) (by omega) (by omega) (by decide) hIg19 (ba_155 _) (by omega) (by omega) (fun g45 hIg45 hug45 => ?_)
            replace hE := zf_tr hE (zf_lg hug45)
            refine mm_g 1 (pc1 := 89) (lo1 := [some (.ref 137), some (.int (Int32.ofInt a1)), some (.int (Int32.ofInt v17)), o18, none]) (st1 := [.ref 137]) (H1 := mz_mk g45 x) rfl ?_
            refine mz_bip rfl bip_6 ?_
            have hq46 : g45 137 30 = (g19 137 30) := (show g45 137 30 = (g19 137 30) from ((hug45.2 137 30 (fun h => absurd h.1 (by decide))).trans rfl))
            refine mz_cv rfl mt_12_409 (by decide) (sc_137 _) rfl (Nat.le_of_ble_eq_true rfl) (by omega) (f_X12_goOn (by omega) hx hIg45 (by decide) (by decide) (mz_pv_fr hpv (fun _j => ((hug45.2 149 _j (fun h => absurd h.1 (by decide))).trans ((hfg19 149 _j nj_46).trans ((hfg11 149 _j (fun h => (absurd (show 149 = 171 from h) (by decide)))).trans ((hfg8 149 _j (fun h => (absurd (show 149 = 162 from h) (by decide)))).trans ((hfg5 149 _j nj_47).trans ((hug1.2 149 _j (fun h => absurd h.1 (by decide))).trans rfl))))))) ((hug45.2 140 3 (fun h => absurd h.1 (by decide))).trans ((hfg19 140 3 nj_48).trans ((hfg11 140 3 (fun h => (absurd (show 140 = 171 from h) (by decide)))).trans ((hfg8 140 3 (fun h => (absurd (show 140 = 162 from h) (by decide)))).trans ((hfg5 140 3 nj_49).trans ((hug1.2 140 3 (fun h => absurd h.1 (by decide))).trans rfl))))))) (by have h9 := (show g45 137 30 = (g19 137 30) from ((hug45.2 137 30 (fun h => absurd h.1 (by decide))).trans rfl)); omega) (fun g47 hIg47 hfg47 hp48 hc49 => ⟨_, rfl, ?_⟩))
            show mm_W d mmX12_look 94 [some (.ref 137), some (.int (Int32.ofInt a1)), some (.int (Int32.ofInt v17)), o18, none] [] (mz_mk g47 x) Q
            replace hE := zf_t1 hE hc49
            refine mm_g 2 (pc1 := 96) (lo1 := [some (.ref 137), some (.int (Int32.ofInt a1)), some (.int (Int32.ofInt v17)), some (.int (Int32.ofInt 0)), none]) (st1 := []) (H1 := mz_mk g47 x) rfl ?_
            have hO54 := hE
            have L55 : ∀ n53 : Nat, ∀ (v50 : Int) (g51 : mz_G), (6 - v50).toNat = n53 → 0 ≤ v50 → v50 ≤ 6 → mz_inv g51 → mz_fr (fl_X12_look_96 x a1) g47 g51 → (∃ fk : Nat, (6 - v50).toNat < fk ∧ zf_E (zL_X12_look_96 a1 3000000000 v17 0 g47) (zL_X12_look_96 a1 fk v17 v50 g51)) → mm_W d mmX12_look 96 [some (.ref 137), some (.int (Int32.ofInt a1)), some (.int (Int32.ofInt v17)), some (.int (Int32.ofInt v50)), none] [] (mz_mk g51 x) Q := by
              intro n53
              induction n53 using Nat.strongRecOn with
              | ind n53 ih52 =>
              intro v50 g51 hmn53 l_v50 u_v50 hIg51 hfg51 hF
              obtain ⟨fk, fl, hE⟩ := hF
              obtain ⟨fj56, rfl⟩ : ∃ fj, fk = fj + 1 := ⟨fk - 1, by omega⟩
              have fn57 : n53 ≤ fj56 := by omega
              replace hE := zf_tr hE zL_X12_look_96_s
              refine mm_g 2 (pc1 := 98) (lo1 := [some (.ref 137), some (.int (Int32.ofInt a1)), some (.int (Int32.ofInt v17)), some (.int (Int32.ofInt v50)), none]) (st1 := [.ref 137, .int (Int32.ofInt v50)]) (H1 := mz_mk g51 x) rfl ?_
              refine mz_fgR (v := 140) rfl fd_12_36 (by decide) (sc_137 _) (rf_137_3 _ _ _) ?_
              refine mm_g 1 (pc1 := 102) (lo1 := [some (.ref 137), some (.int (Int32.ofInt a1)), some (.int (Int32.ofInt v17)), some (.int (Int32.ofInt v50)), none]) (st1 := [.int (Int32.ofInt 1), .ref 140, .int (Int32.ofInt v50)]) (H1 := mz_mk g51 x) rfl ?_
              refine mz_aI rfl (sh_140 _) (by omega) (by omega) (by decide) hIg51 bt_140_1 (fun v58 e_v58 l_v58 u_v58 => ?_)
              have e_v58 : g51 140 1 = v58 := e_v58
              replace hE := zf_tr hE (zf_le e_v58)
              refine mz_ic_ge (tgt := 129) rfl rfl (mz_rg l_v50 u_v50) (mz_rg l_v58 u_v58) (fun c103_58 => ?_) (fun c103_58 => ?_)
              · skip
                replace hE := zf_nl hE c103_58
                replace hE := zf_t1 hO54 hE
                refine mm_g 2 (pc1 := 131) (lo1 := [some (.ref 137), some (.int (Int32.ofInt a1)), some (.int (Int32.ofInt v17)), some (.int (Int32.ofInt v50)), none]) (st1 := [.ref 137, .ref 137]) (H1 := mz_mk g51 x) rfl ?_
                refine mz_fgR (v := 162) rfl fd_12_103 (by decide) (sc_137 _) (rf_137_40 _ _ _) ?_
                refine mm_g 1 (pc1 := 135) (lo1 := [some (.ref 137), some (.int (Int32.ofInt a1)), some (.int (Int32.ofInt v17)), some (.int (Int32.ofInt v50)), none]) (st1 := [.int (Int32.ofInt 0), .ref 162, .ref 137]) (H1 := mz_mk g51 x) rfl ?_
                refine mz_cv rfl mt_12_421 (by decide) (sc_137 _) rfl (Nat.le_of_ble_eq_true rfl) (by omega) (f_X12_recall (by omega) hx hIg51 rwp_162 (by decide) (by decide) (by omega) (by omega) (fun g59 hIg59 hfg59 hp60 hc61 => ⟨_, rfl, ?_⟩))
                show mm_W d mmX12_look 138 [some (.ref 137), some (.int (Int32.ofInt a1)), some (.int (Int32.ofInt v17)), some (.int (Int32.ofInt v50)), none] [] (mz_mk g59 x) Q
                replace hE := zf_t1 hE hc61
                refine mz_iincR (v := v17) (lo2 := [some (.ref 137), some (.int (Int32.ofInt a1)), some (.int (Int32.ofInt (v17 + 1))), some (.int (Int32.ofInt v50)), none]) rfl rfl rfl (Nat.le_of_ble_eq_true rfl) rfl ?_
                refine mz_gt (tgt := 57) rfl rfl ?_
                exact ih20 ((60 - (v17 + 1)).toNat) (by omega) (v17 + 1) (some (.int (Int32.ofInt v50))) g59 rfl (by omega) (by omega) (mz_nl_i _) hIg59 (fun k j hk => ((hfg59 k j (fun h => hk (Or.elim h (fun h => (Or.inr (Or.inr (Or.inr (Or.inr (Or.inr (Or.inr (Or.inr (Or.inr (Or.inr (Or.inr (Or.inl h)))))))))))) (fun h => (Or.elim h (fun h => (Or.inr (Or.inr (Or.inr (Or.inr (Or.inr (Or.inr (Or.inr (Or.inr (Or.inr (Or.inl h))))))))))) (fun h => (Or.elim h (fun h => (Or.inr (Or.inr (Or.inr (Or.inr (Or.inr (Or.inr (Or.inr (Or.inr (Or.inr (Or.inr (Or.inr (Or.inr (Or.inl h)))))))))))))) (fun h => (Or.elim h (fun h => (Or.inr (Or.inr (Or.inr (Or.inr (Or.inr (Or.inr (Or.inr (Or.inr (Or.inr (Or.inr (Or.inr (Or.inr (Or.inr h)))))))))))))) (fun h => (Or.inl h))))))))))).trans ((hfg51 k j (fun h => hk (Or.inr (Or.inr (Or.inr (Or.inr (Or.inr (Or.inr (Or.inr (Or.inr (Or.inr (Or.inr (Or.inr (Or.inl h)))))))))))))).trans ((hfg47 k j (fun h => hk (Or.elim h (fun h => (Or.inr (Or.inl h))) (fun h => (Or.elim h (fun h => (Or.inr (Or.inr (Or.inl h)))) (fun h => (Or.elim h (fun h => (Or.inr (Or.inr (Or.inr (Or.inl h))))) (fun h => (Or.elim h (fun h => (Or.inr (Or.inr (Or.inr (Or.inr (Or.inl h)))))) (fun h => (Or.elim h (fun h => (Or.inr (Or.inr (Or.inr (Or.inr (Or.inr (Or.inl h))))))) (fun h => (Or.elim h (fun h => (Or.inr (Or.inr (Or.inr (Or.inr (Or.inr (Or.inr (Or.inl h)))))))) (fun h => (Or.elim h (fun h => (Or.inr (Or.inr (Or.inr (Or.inr (Or.inr (Or.inr (Or.inr (Or.inl h))))))))) (fun h => (Or.elim h (fun h => (Or.inr (Or.inr (Or.inr (Or.inr (Or.inr (Or.inr (Or.inr (Or.inr (Or.inl h)))))))))) (fun h => (Or.elim h (fun h => (Or.inr (Or.inr (Or.inr (Or.inr (Or.inr (Or.inr (Or.inr (Or.inr (Or.inr (Or.inl h))))))))))) (fun h => (Or.inr (Or.inr (Or.inr (Or.inr (Or.inr (Or.inr (Or.inr (Or.inr (Or.inr (Or.inr (Or.inl h))))))))))))))))))))))))))))))).trans ((hug45.2 k j (fun h => hk (Or.inl h.1))).trans (hfg19 k j (fun h => hk (Or.elim h (fun h => (Or.inl h)) (fun h => (Or.elim h (fun h => (Or.inr (Or.inl h))) (fun h => (Or.elim h (fun h => (Or.inr (Or.inr (Or.inl h)))) (fun h => (Or.elim h (fun h => (Or.inr (Or.inr (Or.inr (Or.inl h))))) (fun h => (Or.elim h (fun h => (Or.inr (Or.inr (Or.inr (Or.inr (Or.inl h)))))) (fun h => (Or.elim h (fun h => (Or.inr (Or.inr (Or.inr (Or.inr (Or.inr (Or.inl h))))))) (fun h => (Or.elim h (fun h => (Or.inr (Or.inr (Or.inr (Or.inr (Or.inr (Or.inr (Or.inl h)))))))) (fun h => (Or.elim h (fun h => (Or.inr (Or.inr (Or.inr (Or.inr (Or.inr (Or.inr (Or.inr (Or.inl h))))))))) (fun h => (Or.elim h (fun h => (Or.inr (Or.inr (Or.inr (Or.inr (Or.inr (Or.inr (Or.inr (Or.inr (Or.inl h)))))))))) (fun h => (Or.elim h (fun h => (Or.inr (Or.inr (Or.inr (Or.inr (Or.inr (Or.inr (Or.inr (Or.inr (Or.inr (Or.inl h))))))))))) (fun h => (Or.elim h (fun h => (Or.inr (Or.inr (Or.inr (Or.inr (Or.inr (Or.inr (Or.inr (Or.inr (Or.inr (Or.inr (Or.inl h)))))))))))) (fun h => (Or.elim h (fun h => (Or.inr (Or.inr (Or.inr (Or.inr (Or.inr (Or.inr (Or.inr (Or.inr (Or.inr (Or.inr (Or.inr (Or.inl h))))))))))))) (fun h => (Or.elim h (fun h => (Or.inr (Or.inr (Or.inr (Or.inr (Or.inr (Or.inr (Or.inr (Or.inr (Or.inr (Or.inr (Or.inr (Or.inr (Or.inl h)))))))))))))) (fun h => (Or.inr (Or.inr (Or.inr (Or.inr (Or.inr (Or.inr (Or.inr (Or.inr (Or.inr (Or.inr (Or.inr (Or.inr (Or.inr h)))))))))))))))))))))))))))))))))))))))))))))) (by omega) ⟨fj24, Nat.lt_of_lt_of_le (show ((60 - (v17 + 1)).toNat) < n21 from (by omega)) fn25, hE⟩
              · skip
                replace hE := zf_ip hE c103_58
                refine mm_g 1 (pc1 := 107) (lo1 := [some (.ref 137), some (.int (Int32.ofInt a1)), some (.int (Int32.ofInt v17)), some (.int (Int32.ofInt v50)), none]) (st1 := [.ref 137]) (H1 := mz_mk g51 x) rfl ?_
                refine mz_fgR (v := 171) rfl fd_12_130 (by decide) (sc_137 _) (rf_137_49 _ _ _) ?_
                refine mm_g 2 (pc1 := 112) (lo1 := [some (.ref 137), some (.int (Int32.ofInt a1)), some (.int (Int32.ofInt v17)), some (.int (Int32.ofInt v50)), none]) (st1 := [.int (Int32.ofInt v50), .ref 171, .int (Int32.ofInt v50), .ref 171]) (H1 := mz_mk g51 x) rfl ?_
                refine mz_aI rfl (sh_171 _) (by omega) (by omega) (by decide) hIg51 (ba_171 _) (fun v62 e_v62 l_v62 u_v62 => ?_)
                replace hE := zf_tr hE (zf_le e_v62)
                refine mm_g 2 (pc1 := 115) (lo1 := [some (.ref 137), some (.int (Int32.ofInt a1)), some (.int (Int32.ofInt v17)), some (.int (Int32.ofInt v50)), none]) (st1 := [.ref 137, .int (Int32.ofInt 1), .int (Int32.ofInt v62), .int (Int32.ofInt v50), .ref 171]) (H1 := mz_mk g51 x) rfl ?_
                refine mz_fgR (v := 152) rfl fd_12_76 (by decide) (sc_137 _) (rf_137_25 _ _ _) ?_
                refine mm_g 1 (pc1 := 119) (lo1 := [some (.ref 137), some (.int (Int32.ofInt a1)), some (.int (Int32.ofInt v17)), some (.int (Int32.ofInt v50)), none]) (st1 := [.int (Int32.ofInt v50), .ref 152, .int (Int32.ofInt 1), .int (Int32.ofInt v62), .int (Int32.ofInt v50), .ref 171]) (H1 := mz_mk g51 x) rfl ?_
                refine mz_aI rfl (sh_152 _) (by omega) (by omega) (by decide) hIg51 (ba_152 _) (fun v63 e_v63 l_v63 u_v63 => ?_)
                replace hE := zf_tr hE (zf_le e_v63)
                refine mz_ishl rfl (fun v64 e_v64 hwv64 => ?_)
                have b_v64 : 1 ≤ v64 ∧ v64 ≤ 256 := by rw [e_v64]; exact mz_shl_b (lx := 1) (hx := 1) (k := 8) (by decide) (by decide) (by omega) (by omega) (by omega) (by omega)
                have l_v64 := b_v64.1
                have u_v64 := b_v64.2
                replace hE := zf_tr hE (zf_le e_v64.symm)
                refine mz_ior rfl (fun v65 e_v65 hwv65 => ?_)
                have b_v65 : 0 ≤ v65 ∧ v65 ≤ 511 := by rw [e_v65]; exact mz_or_lt (n := 9) (by decide) (by omega) (by omega) (by omega) (by omega)
                have l_v65 := b_v65.1
                have u_v65 := b_v65.2
                replace hE := zf_tr hE (zf_le e_v65.symm)
                refine mz_sI rfl (sh_171 _) (by omega) (by omega) (by decide) hIg51 (ba_171 _) (by omega) (by omega) (fun g66 hIg66 hug66 => ?_)
                replace hE := zf_tr hE (zf_lg hug66)
                refine mz_iincR (v := v50) (lo2 := [some (.ref 137), some (.int (Int32.ofInt a1)), some (.int (Int32.ofInt v17)), some (.int (Int32.ofInt (v50 + 1))), none]) rfl rfl rfl (Nat.le_of_ble_eq_true rfl) rfl ?_
                refine mz_gt (tgt := 96) rfl rfl ?_
                exact ih52 ((6 - (v50 + 1)).toNat) (by omega) (v50 + 1) g66 rfl (by omega) (by omega) hIg66 (fun k j hk => ((hug66.2 k j (fun h => hk h.1)).trans (hfg51 k j (fun h => hk h)))) ⟨fj56, Nat.lt_of_lt_of_le (show ((6 - (v50 + 1)).toNat) < n53 from (by omega)) fn57, hE⟩
            exact L55 _ 0 g47 rfl (by decide) (by decide) hIg47 (fun _ _ _ => rfl) ⟨3000000000, by omega, zf_rf⟩
        exact L22 _ 0 none g11 rfl (by decide) (by decide) mz_nl_n hIg11 (fun _ _ _ => rfl) (by have h9 := (show g11 137 30 = (g5 137 30) from ((hfg11 137 30 (fun h => (absurd (show 137 = 171 from h) (by decide)))).trans ((hfg8 137 30 (fun h => (absurd (show 137 = 162 from h) (by decide)))).trans rfl))); omega) ⟨3000000000, by omega, hE⟩
      · skip
        replace hE := zf_ip hE c39_16
        refine mm_g 1 (pc1 := 43) (lo1 := [some (.ref 137), some (.int (Int32.ofInt a1)), some (.int (Int32.ofInt v10)), none, none]) (st1 := [.ref 137]) (H1 := mz_mk g11 x) rfl ?_
        refine mz_fgR (v := 171) rfl fd_12_130 (by decide) (sc_137 _) (rf_137_49 _ _ _) ?_
        refine mm_g 2 (pc1 := 48) (lo1 := [some (.ref 137), some (.int (Int32.ofInt a1)), some (.int (Int32.ofInt v10)), none, none]) (st1 := [.int (Int32.ofInt 0), .int (Int32.ofInt v10), .ref 171]) (H1 := mz_mk g11 x) rfl ?_
        refine mz_sI rfl (sh_171 _) (by omega) (by omega) (by decide) hIg11 (ba_171 _) (by omega) (by omega) (fun g67 hIg67 hug67 => ?_)
        replace hE := zf_tr hE (zf_lg hug67)
        refine mz_iincR (v := v10) (lo2 := [some (.ref 137), some (.int (Int32.ofInt a1)), some (.int (Int32.ofInt (v10 + 1))), none, none]) rfl rfl rfl (Nat.le_of_ble_eq_true rfl) rfl ?_
        refine mz_gt (tgt := 36) rfl rfl ?_
        exact ih12 ((6 - (v10 + 1)).toNat) (by omega) (v10 + 1) g67 rfl (by omega) (by omega) hIg67 (fun k j hk => ((hug67.2 k j (fun h => hk h.1)).trans (hfg11 k j (fun h => hk h)))) ⟨fj15, Nat.lt_of_lt_of_le (show ((6 - (v10 + 1)).toNat) < n13 from (by omega)) fn16, hE⟩
    exact L14 _ 0 g8 rfl (by decide) (by decide) hIg8 (fun _ _ _ => rfl) ⟨3000000000, by omega, hE⟩
  · skip
    replace hE := zf_ip hE c12_4
    refine mm_g 2 (pc1 := 17) (lo1 := [some (.ref 137), some (.int (Int32.ofInt a1)), none, none, none]) (st1 := [.int (Int32.ofInt 1), .ref 137]) (H1 := mz_mk g1 x) rfl ?_
    refine mz_cv rfl mt_12_294 (by decide) (sc_137 _) rfl (Nat.le_of_ble_eq_true rfl) (by omega) (f_X12_fail (by omega) hx hIg1 (by decide) (by decide) (fun v68 g69 hIg69 hfg69 l_v68 u_v68 hc70 => ⟨_, rfl, ?_⟩))
    show mm_W d mmX12_look 20 [some (.ref 137), some (.int (Int32.ofInt a1)), none, none, none] [.int (Int32.ofInt v68)] (mz_mk g69 x) Q
    replace hE := zf_t2 hE hc70
    exact mm_rt rfl rfl (hQ _ _ hIg69 (fun k j hk => ((hfg69 k j (fun h => hk (Or.inl h))).trans (hug1.2 k j (fun h => hk (Or.inl h))))) (by omega) (by omega) (by have h9 := (show g69 137 30 = (g 137 30) from ((hfg69 137 30 (fun h => (absurd (show (137 = 137 ∧ 30 = 2) from h) (by decide)))).trans ((hug1.2 137 30 (fun h => absurd h.2 (by decide))).trans rfl))); omega) hE)
def fw_X12_forget (x : mm_X) : Nat → Nat → Prop := fun k j => (k = 137 ∧ j = 2) ∨ (k = 137 ∧ j = 32)
theorem f_X12_forget {d : Nat} (hd : 1 ≤ d) {x : mm_X} (hx : mk_x x) {g : mz_G} (hI : mz_inv g) (p1 : mz_pv g) (p2 : g 137 30 ≤ 999) {Q : (Option Value ⊕ Nat) → mm_H → Prop} (hQ : ∀ (g1 : mz_G), mz_inv g1 → mz_fr (fw_X12_forget x) g g1 → (g1 137 30 ≤ 999) → zf_E (zF_X12_forget g) (g1) → Q (.inl none) (mz_mk g1 x)) : mm_C d 283 [.ref 137] (mz_mk g x) Q := by
  refine ⟨mmX12_forget, [some (.ref 137)], rfl, rfl, ?_⟩
  have bz0 := mz_rd hI bd_137_30
  have hpv := p1
  have hE : zf_E (zF_X12_forget g) (zF_X12_forget g) := zf_rf
  refine mm_g 2 (pc1 := 2) (lo1 := [some (.ref 137)]) (st1 := [.int (Int32.ofInt 0), .ref 137]) (H1 := mz_mk g x) rfl ?_
  refine mz_pI rfl fd_12_154 (sc_137 _) hI bd_137_2 (by omega) (by omega) (fun g1 hIg1 hug1 => ?_)
  replace hE := zf_tr hE (zf_lg hug1)
  refine mm_g 2 (pc1 := 7) (lo1 := [some (.ref 137)]) (st1 := [.int (Int32.ofInt 0), .ref 137]) (H1 := mz_mk g1 x) rfl ?_
  refine mz_pI rfl fd_12_313 (sc_137 _) hIg1 bd_137_32 (by omega) (by omega) (fun g2 hIg2 hug2 => ?_)
  replace hE := zf_tr hE (zf_lg hug2)
  exact mm_rt rfl rfl (hQ _ hIg2 (fun k j hk => ((hug2.2 k j (fun h => hk (Or.inr h))).trans (hug1.2 k j (fun h => hk (Or.inl h))))) (by have h9 := (show g2 137 30 = (g 137 30) from ((hug2.2 137 30 (fun h => absurd h.2 (by decide))).trans ((hug1.2 137 30 (fun h => absurd h.2 (by decide))).trans rfl))); omega) hE)
def fl_X12_seasons_64 (x : mm_X) (a1 : Int) (a2 : Int) (a3 : Int) : Nat → Nat → Prop := fun k j => (k = 160 ∧ j = 0) ∨ (k = 160 ∧ j = 1) ∨ (k = 160 ∧ j = 2) ∨ (k = 160 ∧ j = 3) ∨ (k = 160 ∧ j = 4) ∨ (k = 160 ∧ j = 5) ∨ (k = 160 ∧ j = 6) ∨ k = 161 ∨ k = 152 ∨ (k = 137 ∧ j = 30) ∨ k = 153 ∨ k = 154 ∨ k = 155
def fl_X12_seasons_78 (x : mm_X) (a1 : Int) (a2 : Int) (a3 : Int) : Nat → Nat → Prop := fun k j => (k = 160 ∧ j = 0) ∨ (k = 160 ∧ j = 1) ∨ (k = 160 ∧ j = 2) ∨ (k = 160 ∧ j = 3) ∨ (k = 160 ∧ j = 4) ∨ (k = 160 ∧ j = 5) ∨ (k = 160 ∧ j = 6) ∨ k = 161 ∨ k = 152 ∨ (k = 137 ∧ j = 30)
def fw_X12_seasons (x : mm_X) (a1 : Int) (a2 : Int) (a3 : Int) : Nat → Nat → Prop := fun k j => (k = 137 ∧ j = 2) ∨ k = 162 ∨ (k = 160 ∧ j = 0) ∨ (k = 160 ∧ j = 1) ∨ (k = 160 ∧ j = 2) ∨ (k = 160 ∧ j = 3) ∨ (k = 160 ∧ j = 4) ∨ (k = 160 ∧ j = 5) ∨ (k = 160 ∧ j = 6) ∨ k = 161 ∨ k = 152 ∨ (k = 137 ∧ j = 30) ∨ k = 153 ∨ k = 154 ∨ k = 155
theorem f_X12_seasons {d : Nat} (hd : 15 ≤ d) {x : mm_X} (hx : mk_x x) {g : mz_G} (hI : mz_inv g) {a1 : Int} (l_a1 : (-2147483648) ≤ a1) (u_a1 : a1 ≤ 2147483647) {a2 : Int} (l_a2 : (-2147483648) ≤ a2) (u_a2 : a2 ≤ 2147483647) {a3 : Int} (l_a3 : (-2147483648) ≤ a3) (u_a3 : a3 ≤ 2147483647) (p1 : mz_pv g) (p2 : g 137 30 ≤ 999) {Q : (Option Value ⊕ Nat) → mm_H → Prop} (hQ : ∀ (r : Int) (g1 : mz_G), mz_inv g1 → mz_fr (fw_X12_seasons x a1 a2 a3) g g1 → (-2147483648) ≤ r → r ≤ 2147483647 → (g1 137 30 ≤ 999) → zf_E (zF_X12_seasons a1 a2 a3 g) ((r, g1)) → Q (.inl (some (.int (Int32.ofInt r)))) (mz_mk g1 x)) : mm_C d 284 [.ref 137, .int (Int32.ofInt a1), .int (Int32.ofInt a2), .int (Int32.ofInt a3)] (mz_mk g x) Q := by
  refine ⟨mmX12_seasons, [some (.ref 137), some (.int (Int32.ofInt a1)), some (.int (Int32.ofInt a2)), some (.int (Int32.ofInt a3)), none, none, none, none], rfl, rfl, ?_⟩
  have bz0 := mz_rd hI bd_137_30
  have hpv := p1
  have hE : zf_E (zF_X12_seasons a1 a2 a3 g) (zF_X12_seasons a1 a2 a3 g) := zf_rf
  refine mm_g 2 (pc1 := 2) (lo1 := [some (.ref 137), some (.int (Int32.ofInt a1)), some (.int (Int32.ofInt a2)), some (.int (Int32.ofInt a3)), none, none, none, none]) (st1 := [.int (Int32.ofInt 0), .ref 137]) (H1 := mz_mk g x) rfl ?_
  refine mz_pI rfl fd_12_154 (sc_137 _) hI bd_137_2 (by omega) (by omega) (fun g1 hIg1 hug1 => ?_)
  replace hE := zf_tr hE (zf_lg hug1)
  refine mm_g 2 (pc1 := 7) (lo1 := [some (.ref 137), some (.int (Int32.ofInt a1)), some (.int (Int32.ofInt a2)), some (.int (Int32.ofInt a3)), none, none, none, none]) (st1 := [.int (Int32.ofInt a1), .ref 137]) (H1 := mz_mk g1 x) rfl ?_
  refine mz_cv rfl mt_12_391 (by decide) (sc_137 _) rfl (Nat.le_of_ble_eq_true rfl) (by omega) (f_X12_isTrunk (by omega) hx hIg1 l_a1 u_a1 (fun v2 l_v2 u_v2 hp3 hp4 hc5 => ⟨_, rfl, ?_⟩))
  show mm_W d mmX12_seasons 10 [some (.ref 137), some (.int (Int32.ofInt a1)), some (.int (Int32.ofInt a2)), some (.int (Int32.ofInt a3)), none, none, none, none] [.int (Int32.ofInt v2)] (mz_mk g1 x) Q
  replace hE := zf_t1 hE hc5
  refine mz_if_ne (tgt := 19) rfl rfl (mz_rg l_v2 u_v2) (fun c10_5 => ?_) (fun c10_5 => ?_)
  · skip
    replace hE := zf_in hE c10_5
    refine mm_g 1 (pc1 := 20) (lo1 := [some (.ref 137), some (.int (Int32.ofInt a1)), some (.int (Int32.ofInt a2)), some (.int (Int32.ofInt a3)), none, none, none, none]) (st1 := [.int (Int32.ofInt a2)]) (H1 := mz_mk g1 x) rfl ?_
    refine mz_i2l rfl (mz_rg l_a2 u_a2) ?_
    refine mz_lcst (c := 1) rfl rfl ?_
    refine mz_l2w (c := 5) rfl rfl rfl ?_
    refine mz_cs rfl mt_12_157 (by decide) rfl (Nat.le_of_ble_eq_true rfl) (by omega) (f_X12_isIn (by omega) hx hIg1 (by omega) (by omega) (by omega) (by omega) (by omega) (by omega) (fun v6 l_v6 u_v6 hp7 hc8 => ⟨_, rfl, ?_⟩))
    show mm_W d mmX12_seasons 28 [some (.ref 137), some (.int (Int32.ofInt a1)), some (.int (Int32.ofInt a2)), some (.int (Int32.ofInt a3)), none, none, none, none] [.int (Int32.ofInt v6)] (mz_mk g1 x) Q
    replace hE := zf_t1 hE hc8
    refine mz_if_eq (tgt := 43) rfl rfl (mz_rg l_v6 u_v6) (fun c28_8 => ?_) (fun c28_8 => ?_)
    · skip
      replace hE := zf_ip hE c28_8
      refine mm_g 2 (pc1 := 45) (lo1 := [some (.ref 137), some (.int (Int32.ofInt a1)), some (.int (Int32.ofInt a2)), some (.int (Int32.ofInt a3)), none, none, none, none]) (st1 := [.int (Int32.ofInt 2), .ref 137]) (H1 := mz_mk g1 x) rfl ?_
      refine mz_cv rfl mt_12_294 (by decide) (sc_137 _) rfl (Nat.le_of_ble_eq_true rfl) (by omega) (f_X12_fail (by omega) hx hIg1 (by decide) (by decide) (fun v9 g10 hIg10 hfg10 l_v9 u_v9 hc11 => ⟨_, rfl, ?_⟩))
      show mm_W d mmX12_seasons 48 [some (.ref 137), some (.int (Int32.ofInt a1)), some (.int (Int32.ofInt a2)), some (.int (Int32.ofInt a3)), none, none, none, none] [.int (Int32.ofInt v9)] (mz_mk g10 x) Q
      replace hE := zf_t2 hE hc11
      exact mm_rt rfl rfl (hQ _ _ hIg10 (fun k j hk => ((hfg10 k j (fun h => hk (Or.inl h))).trans (hug1.2 k j (fun h => hk (Or.inl h))))) (by omega) (by omega) (by have h9 := (show g10 137 30 = (g 137 30) from ((hfg10 137 30 (fun h => (absurd (show (137 = 137 ∧ 30 = 2) from h) (by decide)))).trans ((hug1.2 137 30 (fun h => absurd h.2 (by decide))).trans rfl))); omega) hE)
    · skip
      replace hE := zf_in hE c28_8
      refine mm_g 1 (pc1 := 32) (lo1 := [some (.ref 137), some (.int (Int32.ofInt a1)), some (.int (Int32.ofInt a2)), some (.int (Int32.ofInt a3)), none, none, none, none]) (st1 := [.int (Int32.ofInt a3)]) (H1 := mz_mk g1 x) rfl ?_
      refine mz_i2l rfl (mz_rg l_a3 u_a3) ?_
      refine mz_lcst (c := 0) rfl rfl ?_
      refine mz_l2w (c := 10) rfl rfl rfl ?_
      refine mz_cs rfl mt_12_157 (by decide) rfl (Nat.le_of_ble_eq_true rfl) (by omega) (f_X12_isIn (by omega) hx hIg1 (by omega) (by omega) (by omega) (by omega) (by omega) (by omega) (fun v12 l_v12 u_v12 hp13 hc14 => ⟨_, rfl, ?_⟩))
      show mm_W d mmX12_seasons 40 [some (.ref 137), some (.int (Int32.ofInt a1)), some (.int (Int32.ofInt a2)), some (.int (Int32.ofInt a3)), none, none, none, none] [.int (Int32.ofInt v12)] (mz_mk g1 x) Q
      replace hE := zf_t1 hE hc14
      refine mz_if_ne (tgt := 49) rfl rfl (mz_rg l_v12 u_v12) (fun c40_14 => ?_) (fun c40_14 => ?_)
      · skip
        replace hE := zf_in hE c40_14
        refine mm_g 4 (pc1 := 54) (lo1 := [some (.ref 137), some (.int (Int32.ofInt a1)), some (.int (Int32.ofInt a2)), some (.int (Int32.ofInt a3)), some (.int (Int32.ofInt 0)), none, none, none]) (st1 := [.ref 137, .ref 137]) (H1 := mz_mk g1 x) rfl ?_
        refine mz_fgR (v := 162) rfl fd_12_103 (by decide) (sc_137 _) (rf_137_40 _ _ _) ?_
        refine mm_g 1 (pc1 := 58) (lo1 := [some (.ref 137), some (.int (Int32.ofInt a1)), some (.int (Int32.ofInt a2)), some (.int (Int32.ofInt a3)), some (.int (Int32.ofInt 0)), none, none, none]) (st1 := [.int (Int32.ofInt 0), .ref 162, .ref 137]) (H1 := mz_mk g1 x) rfl ?_
        refine mz_cv rfl mt_12_397 (by decide) (sc_137 _) rfl (Nat.le_of_ble_eq_true rfl) (by omega) (f_X12_store (by omega) hx hIg1 rwp_162 (by decide) (by decide) (by omega) (by omega) (by have h9 := (show g1 137 30 = (g 137 30) from ((hug1.2 137 30 (fun h => absurd h.2 (by decide))).trans rfl)); omega) (fun g15 hIg15 hfg15 hc16 => ⟨_, rfl, ?_⟩))
        show mm_W d mmX12_seasons 61 [some (.ref 137), some (.int (Int32.ofInt a1)), some (.int (Int32.ofInt a2)), some (.int (Int32.ofInt a3)), some (.int (Int32.ofInt 0)), none, none, none] [] (mz_mk g15 x) Q
        replace hE := zf_t1 hE hc16
        refine mm_g 2 (pc1 := 64) (lo1 := [some (.ref 137), some (.int (Int32.ofInt a1)), some (.int (Int32.ofInt a2)), some (.int (Int32.ofInt a3)), some (.int (Int32.ofInt 0)), some (.int (Int32.ofInt 0)), none, none]) (st1 := []) (H1 := mz_mk g15 x) rfl ?_
        have L24 : ∀ n23 : Nat, ∀ (v17 : Int) (v18 : Int) (o19 : Option Value) (o20 : Option Value) (g21 : mz_G), (32 - v18).toNat = n23 → (-2147483648) ≤ v17 → v17 ≤ 2147483647 → 0 ≤ v18 → v18 ≤ 32 → mz_nl o19 → mz_nl o20 → mz_inv g21 → mz_fr (fl_X12_seasons_64 x a1 a2 a3) g15 g21 → (g21 137 30 ≤ 999) → (∃ fk : Nat, (32 - v18).toNat < fk ∧ zf_E (zF_X12_seasons a1 a2 a3 g) (zL_X12_seasons_64 a1 a2 a3 fk v17 v18 g21)) → mm_W d mmX12_seasons 64 [some (.ref 137), some (.int (Int32.ofInt a1)), some (.int (Int32.ofInt a2)), some (.int (Int32.ofInt a3)), some (.int (Int32.ofInt v17)), some (.int (Int32.ofInt v18)), o19, o20] [] (mz_mk g21 x) Q := by
          intro n23
          induction n23 using Nat.strongRecOn with
          | ind n23 ih22 =>
          intro v17 v18 o19 o20 g21 hmn23 l_v17 u_v17 l_v18 u_v18 h_o19 h_o20 hIg21 hfg21 hv25 hF
          obtain ⟨fk, fl, hE⟩ := hF
          obtain ⟨fj26, rfl⟩ : ∃ fj, fk = fj + 1 := ⟨fk - 1, by omega⟩
          have fn27 : n23 ≤ fj26 := by omega
          replace hE := zf_tr hE zL_X12_seasons_64_s
          have bz_g21_30 := mz_rd hIg21 bd_137_30
          refine mm_g 3 (pc1 := 68) (lo1 := [some (.ref 137), some (.int (Int32.ofInt a1)), some (.int (Int32.ofInt a2)), some (.int (Int32.ofInt a3)), some (.int (Int32.ofInt v17)), some (.int (Int32.ofInt v18)), o19, o20]) (st1 := [.int (Int32.ofInt a2), .int (Int32.ofInt 1), .int (Int32.ofInt v18)]) (H1 := mz_mk g21 x) rfl ?_
          refine mz_ishl rfl (fun v28 e_v28 hwv28 => ?_)
          have b_v28 : 1 ≤ v28 ∧ v28 ≤ 32 := by rw [e_v28]; exact mz_shl_b (lx := 1) (hx := 1) (k := 5) (by decide) (by decide) (by omega) (by omega) (by omega) (by omega)
          have l_v28 := b_v28.1
          have u_v28 := b_v28.2
          replace hE := zf_tr hE (zf_le e_v28.symm)
          refine mz_ic_ge (tgt := 167) rfl rfl (mz_rg l_v18 u_v18) (mz_rg l_v28 u_v28) (fun c69_28 => ?_) (fun c69_28 => ?_)
          · skip
            replace hE := zf_nl hE c69_28
            refine mm_g 1 (pc1 := 169) (lo1 := [some (.ref 137), some (.int (Int32.ofInt a1)), some (.int (Int32.ofInt a2)), some (.int (Int32.ofInt a3)), some (.int (Int32.ofInt v17)), some (.int (Int32.ofInt v18)), o19, o20]) (st1 := [.int (Int32.ofInt v17)]) (H1 := mz_mk g21 x) rfl ?_
            exact mm_rt rfl rfl (hQ _ _ hIg21 (fun k j hk => ((hfg21 k j (fun h => hk (Or.elim h (fun h => (Or.inr (Or.inr (Or.inl h)))) (fun h => (Or.elim h (fun h => (Or.inr (Or.inr (Or.inr (Or.inl h))))) (fun h => (Or.elim h (fun h => (Or.inr (Or.inr (Or.inr (Or.inr (Or.inl h)))))) (fun h => (Or.elim h (fun h => (Or.inr (Or.inr (Or.inr (Or.inr (Or.inr (Or.inl h))))))) (fun h => (Or.elim h (fun h => (Or.inr (Or.inr (Or.inr (Or.inr (Or.inr (Or.inr (Or.inl h)))))))) (fun h => (Or.elim h (fun h => (Or.inr (Or.inr (Or.inr (Or.inr (Or.inr (Or.inr (Or.inr (Or.inl h))))))))) (fun h => (Or.elim h (fun h => (Or.inr (Or.inr (Or.inr (Or.inr (Or.inr (Or.inr (Or.inr (Or.inr (Or.inl h)))))))))) (fun h => (Or.elim h (fun h => (Or.inr (Or.inr (Or.inr (Or.inr (Or.inr (Or.inr (Or.inr (Or.inr (Or.inr (Or.inl h))))))))))) (fun h => (Or.elim h (fun h => (Or.inr (Or.inr (Or.inr (Or.inr (Or.inr (Or.inr (Or.inr (Or.inr (Or.inr (Or.inr (Or.inl h)))))))))))) (fun h => (Or.elim h (fun h => (Or.inr (Or.inr (Or.inr (Or.inr (Or.inr (Or.inr (Or.inr (Or.inr (Or.inr (Or.inr (Or.inr (Or.inl h))))))))))))) (fun h => (Or.elim h (fun h => (Or.inr (Or.inr (Or.inr (Or.inr (Or.inr (Or.inr (Or.inr (Or.inr (Or.inr (Or.inr (Or.inr (Or.inr (Or.inl h)))))))))))))) (fun h => (Or.elim h (fun h => (Or.inr (Or.inr (Or.inr (Or.inr (Or.inr (Or.inr (Or.inr (Or.inr (Or.inr (Or.inr (Or.inr (Or.inr (Or.inr (Or.inl h))))))))))))))) (fun h => (Or.inr (Or.inr (Or.inr (Or.inr (Or.inr (Or.inr (Or.inr (Or.inr (Or.inr (Or.inr (Or.inr (Or.inr (Or.inr (Or.inr h)))))))))))))))))))))))))))))))))))))))).trans ((hfg15 k j (fun h => hk (Or.inr (Or.inl h)))).trans (hug1.2 k j (fun h => hk (Or.inl h)))))) (by omega) (by omega) (by omega) hE)
          · skip
            replace hE := zf_ip hE c69_28
            refine mm_g 4 (pc1 := 78) (lo1 := [some (.ref 137), some (.int (Int32.ofInt a1)), some (.int (Int32.ofInt a2)), some (.int (Int32.ofInt a3)), some (.int (Int32.ofInt v17)), some (.int (Int32.ofInt v18)), some (.int (Int32.ofInt 1)), some (.int (Int32.ofInt 0))]) (st1 := []) (H1 := mz_mk g21 x) rfl ?_
            have hO34 := hE
            have L35 : ∀ n33 : Nat, ∀ (v29 : Int) (v30 : Int) (g31 : mz_G), (5 - v30).toNat = n33 → (-2147483648) ≤ v29 → v29 ≤ 2147483647 → 0 ≤ v30 → v30 ≤ 5 → mz_inv g31 → mz_fr (fl_X12_seasons_78 x a1 a2 a3) g21 g31 → (g31 137 30 ≤ 999 + v30) → (∃ fk : Nat, (5 - v30).toNat < fk ∧ zf_E (zL_X12_seasons_78 a1 a2 a3 3000000000 v17 v18 1 0 g21) (zL_X12_seasons_78 a1 a2 a3 fk v17 v18 v29 v30 g31)) → mm_W d mmX12_seasons 78 [some (.ref 137), some (.int (Int32.ofInt a1)), some (.int (Int32.ofInt a2)), some (.int (Int32.ofInt a3)), some (.int (Int32.ofInt v17)), some (.int (Int32.ofInt v18)), some (.int (Int32.ofInt v29)), some (.int (Int32.ofInt v30))] [] (mz_mk g31 x) Q := by
              intro n33
              induction n33 using Nat.strongRecOn with
              | ind n33 ih32 =>
              intro v29 v30 g31 hmn33 l_v29 u_v29 l_v30 u_v30 hIg31 hfg31 hv36 hF
              obtain ⟨fk, fl, hE⟩ := hF
              obtain ⟨fj37, rfl⟩ : ∃ fj, fk = fj + 1 := ⟨fk - 1, by omega⟩
              have fn38 : n33 ≤ fj37 := by omega
              replace hE := zf_tr hE zL_X12_seasons_78_s
              have bz_g31_30 := mz_rd hIg31 bd_137_30
              refine mm_g 2 (pc1 := 81) (lo1 := [some (.ref 137), some (.int (Int32.ofInt a1)), some (.int (Int32.ofInt a2)), some (.int (Int32.ofInt a3)), some (.int (Int32.ofInt v17)), some (.int (Int32.ofInt v18)), some (.int (Int32.ofInt v29)), some (.int (Int32.ofInt v30))]) (st1 := [.int (Int32.ofInt a2), .int (Int32.ofInt v30)]) (H1 := mz_mk g31 x) rfl ?_
              refine mz_ic_ge (tgt := 133) rfl rfl (mz_rg l_v30 u_v30) (mz_rg l_a2 u_a2) (fun c81_38 => ?_) (fun c81_38 => ?_)
              · skip
                replace hE := zf_nl hE c81_38
                replace hE := zf_t2 hO34 hE
                refine mm_g 3 (pc1 := 137) (lo1 := [some (.ref 137), some (.int (Int32.ofInt a1)), some (.int (Int32.ofInt a2)), some (.int (Int32.ofInt a3)), some (.int (Int32.ofInt v17)), some (.int (Int32.ofInt v18)), some (.int (Int32.ofInt v29)), some (.int (Int32.ofInt v30))]) (st1 := [.int (Int32.ofInt a1), .ref 137, .int (Int32.ofInt v17)]) (H1 := mz_mk g31 x) rfl ?_
                refine mz_cv rfl mt_12_365 (by decide) (sc_137 _) rfl (Nat.le_of_ble_eq_true rfl) (by omega) (f_X12_isFull (by omega) hx hIg31 (by omega) (by omega) (fun v39 l_v39 u_v39 hc40 => ⟨_, rfl, ?_⟩))
                show mm_W d mmX12_seasons 140 [some (.ref 137), some (.int (Int32.ofInt a1)), some (.int (Int32.ofInt a2)), some (.int (Int32.ofInt a3)), some (.int (Int32.ofInt v17)), some (.int (Int32.ofInt v18)), some (.int (Int32.ofInt v29)), some (.int (Int32.ofInt v30))] [.int (Int32.ofInt v39), .int (Int32.ofInt v17)] (mz_mk g31 x) Q
                replace hE := zf_t1 hE hc40
                refine mz_if_eq (tgt := 148) rfl rfl (mz_rg l_v39 u_v39) (fun c140_40 => ?_) (fun c140_40 => ?_)
                · skip
                  replace hE := zf_ip hE c140_40
                  refine mm_g 1 (pc1 := 149) (lo1 := [some (.ref 137), some (.int (Int32.ofInt a1)), some (.int (Int32.ofInt a2)), some (.int (Int32.ofInt a3)), some (.int (Int32.ofInt v17)), some (.int (Int32.ofInt v18)), some (.int (Int32.ofInt v29)), some (.int (Int32.ofInt v30))]) (st1 := [.int (Int32.ofInt 0), .int (Int32.ofInt v17)]) (H1 := mz_mk g31 x) rfl ?_
                  refine mz_iadd rfl ?_
                  replace hE := zf_tr hE (zf_lw ⟨by omega, by omega⟩)
                  refine mm_g 3 (pc1 := 154) (lo1 := [some (.ref 137), some (.int (Int32.ofInt a1)), some (.int (Int32.ofInt a2)), some (.int (Int32.ofInt a3)), some (.int (Int32.ofInt (v17 + 0))), some (.int (Int32.ofInt v18)), some (.int (Int32.ofInt v29)), some (.int (Int32.ofInt v30))]) (st1 := [.ref 137, .ref 137]) (H1 := mz_mk g31 x) rfl ?_
                  refine mz_fgR (v := 162) rfl fd_12_103 (by decide) (sc_137 _) (rf_137_40 _ _ _) ?_
                  refine mm_g 1 (pc1 := 158) (lo1 := [some (.ref 137), some (.int (Int32.ofInt a1)), some (.int (Int32.ofInt a2)), some (.int (Int32.ofInt a3)), some (.int (Int32.ofInt (v17 + 0))), some (.int (Int32.ofInt v18)), some (.int (Int32.ofInt v29)), some (.int (Int32.ofInt v30))]) (st1 := [.int (Int32.ofInt 0), .ref 162, .ref 137]) (H1 := mz_mk g31 x) rfl ?_
                  refine mz_cv rfl mt_12_421 (by decide) (sc_137 _) rfl (Nat.le_of_ble_eq_true rfl) (by omega) (f_X12_recall (by omega) hx hIg31 rwp_162 (by decide) (by decide) (by omega) (by omega) (fun g41 hIg41 hfg41 hp42 hc43 => ⟨_, rfl, ?_⟩))
                  show mm_W d mmX12_seasons 161 [some (.ref 137), some (.int (Int32.ofInt a1)), some (.int (Int32.ofInt a2)), some (.int (Int32.ofInt a3)), some (.int (Int32.ofInt (v17 + 0))), some (.int (Int32.ofInt v18)), some (.int (Int32.ofInt v29)), some (.int (Int32.ofInt v30))] [] (mz_mk g41 x) Q
                  replace hE := zf_t1 hE hc43
                  refine mz_iincR (v := v18) (lo2 := [some (.ref 137), some (.int (Int32.ofInt a1)), some (.int (Int32.ofInt a2)), some (.int (Int32.ofInt a3)), some (.int (Int32.ofInt (v17 + 0))), some (.int (Int32.ofInt (v18 + 1))), some (.int (Int32.ofInt v29)), some (.int (Int32.ofInt v30))]) rfl rfl rfl (Nat.le_of_ble_eq_true rfl) rfl ?_
                  refine mz_gt (tgt := 64) rfl rfl ?_
                  exact ih22 ((32 - (v18 + 1)).toNat) (by omega) (v17 + 0) (v18 + 1) (some (.int (Int32.ofInt v29))) (some (.int (Int32.ofInt v30))) g41 rfl (by omega) (by omega) (by omega) (by omega) (mz_nl_i _) (mz_nl_i _) hIg41 (fun k j hk => ((hfg41 k j (fun h => hk (Or.elim h (fun h => (Or.inr (Or.inr (Or.inr (Or.inr (Or.inr (Or.inr (Or.inr (Or.inr (Or.inr (Or.inl h))))))))))) (fun h => (Or.elim h (fun h => (Or.inr (Or.inr (Or.inr (Or.inr (Or.inr (Or.inr (Or.inr (Or.inr (Or.inl h)))))))))) (fun h => (Or.elim h (fun h => (Or.inr (Or.inr (Or.inr (Or.inr (Or.inr (Or.inr (Or.inr (Or.inr (Or.inr (Or.inr (Or.inl h)))))))))))) (fun h => (Or.elim h (fun h => (Or.inr (Or.inr (Or.inr (Or.inr (Or.inr (Or.inr (Or.inr (Or.inr (Or.inr (Or.inr (Or.inr (Or.inl h))))))))))))) (fun h => (Or.inr (Or.inr (Or.inr (Or.inr (Or.inr (Or.inr (Or.inr (Or.inr (Or.inr (Or.inr (Or.inr (Or.inr h)))))))))))))))))))))).trans ((hfg31 k j (fun h => hk (Or.elim h (fun h => (Or.inl h)) (fun h => (Or.elim h (fun h => (Or.inr (Or.inl h))) (fun h => (Or.elim h (fun h => (Or.inr (Or.inr (Or.inl h)))) (fun h => (Or.elim h (fun h => (Or.inr (Or.inr (Or.inr (Or.inl h))))) (fun h => (Or.elim h (fun h => (Or.inr (Or.inr (Or.inr (Or.inr (Or.inl h)))))) (fun h => (Or.elim h (fun h => (Or.inr (Or.inr (Or.inr (Or.inr (Or.inr (Or.inl h))))))) (fun h => (Or.elim h (fun h => (Or.inr (Or.inr (Or.inr (Or.inr (Or.inr (Or.inr (Or.inl h)))))))) (fun h => (Or.elim h (fun h => (Or.inr (Or.inr (Or.inr (Or.inr (Or.inr (Or.inr (Or.inr (Or.inl h))))))))) (fun h => (Or.elim h (fun h => (Or.inr (Or.inr (Or.inr (Or.inr (Or.inr (Or.inr (Or.inr (Or.inr (Or.inl h)))))))))) (fun h => (Or.inr (Or.inr (Or.inr (Or.inr (Or.inr (Or.inr (Or.inr (Or.inr (Or.inr (Or.inl h)))))))))))))))))))))))))))))).trans (hfg21 k j (fun h => hk (Or.elim h (fun h => (Or.inl h)) (fun h => (Or.elim h (fun h => (Or.inr (Or.inl h))) (fun h => (Or.elim h (fun h => (Or.inr (Or.inr (Or.inl h)))) (fun h => (Or.elim h (fun h => (Or.inr (Or.inr (Or.inr (Or.inl h))))) (fun h => (Or.elim h (fun h => (Or.inr (Or.inr (Or.inr (Or.inr (Or.inl h)))))) (fun h => (Or.elim h (fun h => (Or.inr (Or.inr (Or.inr (Or.inr (Or.inr (Or.inl h))))))) (fun h => (Or.elim h (fun h => (Or.inr (Or.inr (Or.inr (Or.inr (Or.inr (Or.inr (Or.inl h)))))))) (fun h => (Or.elim h (fun h => (Or.inr (Or.inr (Or.inr (Or.inr (Or.inr (Or.inr (Or.inr (Or.inl h))))))))) (fun h => (Or.elim h (fun h => (Or.inr (Or.inr (Or.inr (Or.inr (Or.inr (Or.inr (Or.inr (Or.inr (Or.inl h)))))))))) (fun h => (Or.elim h (fun h => (Or.inr (Or.inr (Or.inr (Or.inr (Or.inr (Or.inr (Or.inr (Or.inr (Or.inr (Or.inl h))))))))))) (fun h => (Or.elim h (fun h => (Or.inr (Or.inr (Or.inr (Or.inr (Or.inr (Or.inr (Or.inr (Or.inr (Or.inr (Or.inr (Or.inl h)))))))))))) (fun h => (Or.elim h (fun h => (Or.inr (Or.inr (Or.inr (Or.inr (Or.inr (Or.inr (Or.inr (Or.inr (Or.inr (Or.inr (Or.inr (Or.inl h))))))))))))) (fun h => (Or.inr (Or.inr (Or.inr (Or.inr (Or.inr (Or.inr (Or.inr (Or.inr (Or.inr (Or.inr (Or.inr (Or.inr h))))))))))))))))))))))))))))))))))))))))) (by omega) ⟨fj26, Nat.lt_of_lt_of_le (show ((32 - (v18 + 1)).toNat) < n23 from (by omega)) fn27, hE⟩
                · skip
                  replace hE := zf_in hE c140_40
                  refine mm_g 1 (pc1 := 145) (lo1 := [some (.ref 137), some (.int (Int32.ofInt a1)), some (.int (Int32.ofInt a2)), some (.int (Int32.ofInt a3)), some (.int (Int32.ofInt v17)), some (.int (Int32.ofInt v18)), some (.int (Int32.ofInt v29)), some (.int (Int32.ofInt v30))]) (st1 := [.int (Int32.ofInt v29), .int (Int32.ofInt v17)]) (H1 := mz_mk g31 x) rfl ?_
                  refine mz_gt (tgt := 149) rfl rfl ?_
                  refine mz_iadd_w rfl (fun v44 e_v44 hwv44 => ?_)
                  have l_v44 := hwv44.1
                  have u_v44 := hwv44.2
                  replace hE := zf_tr hE (zf_le e_v44.symm)
                  refine mm_g 3 (pc1 := 154) (lo1 := [some (.ref 137), some (.int (Int32.ofInt a1)), some (.int (Int32.ofInt a2)), some (.int (Int32.ofInt a3)), some (.int (Int32.ofInt v44)), some (.int (Int32.ofInt v18)), some (.int (Int32.ofInt v29)), some (.int (Int32.ofInt v30))]) (st1 := [.ref 137, .ref 137]) (H1 := mz_mk g31 x) rfl ?_
                  refine mz_fgR (v := 162) rfl fd_12_103 (by decide) (sc_137 _) (rf_137_40 _ _ _) ?_
                  refine mm_g 1 (pc1 := 158) (lo1 := [some (.ref 137), some (.int (Int32.ofInt a1)), some (.int (Int32.ofInt a2)), some (.int (Int32.ofInt a3)), some (.int (Int32.ofInt v44)), some (.int (Int32.ofInt v18)), some (.int (Int32.ofInt v29)), some (.int (Int32.ofInt v30))]) (st1 := [.int (Int32.ofInt 0), .ref 162, .ref 137]) (H1 := mz_mk g31 x) rfl ?_
                  refine mz_cv rfl mt_12_421 (by decide) (sc_137 _) rfl (Nat.le_of_ble_eq_true rfl) (by omega) (f_X12_recall (by omega) hx hIg31 rwp_162 (by decide) (by decide) (by omega) (by omega) (fun g45 hIg45 hfg45 hp46 hc47 => ⟨_, rfl, ?_⟩))
                  show mm_W d mmX12_seasons 161 [some (.ref 137), some (.int (Int32.ofInt a1)), some (.int (Int32.ofInt a2)), some (.int (Int32.ofInt a3)), some (.int (Int32.ofInt v44)), some (.int (Int32.ofInt v18)), some (.int (Int32.ofInt v29)), some (.int (Int32.ofInt v30))] [] (mz_mk g45 x) Q
                  replace hE := zf_t1 hE hc47
                  refine mz_iincR (v := v18) (lo2 := [some (.ref 137), some (.int (Int32.ofInt a1)), some (.int (Int32.ofInt a2)), some (.int (Int32.ofInt a3)), some (.int (Int32.ofInt v44)), some (.int (Int32.ofInt (v18 + 1))), some (.int (Int32.ofInt v29)), some (.int (Int32.ofInt v30))]) rfl rfl rfl (Nat.le_of_ble_eq_true rfl) rfl ?_
                  refine mz_gt (tgt := 64) rfl rfl ?_
                  exact ih22 ((32 - (v18 + 1)).toNat) (by omega) v44 (v18 + 1) (some (.int (Int32.ofInt v29))) (some (.int (Int32.ofInt v30))) g45 rfl (by omega) (by omega) (by omega) (by omega) (mz_nl_i _) (mz_nl_i _) hIg45 (fun k j hk => ((hfg45 k j (fun h => hk (Or.elim h (fun h => (Or.inr (Or.inr (Or.inr (Or.inr (Or.inr (Or.inr (Or.inr (Or.inr (Or.inr (Or.inl h))))))))))) (fun h => (Or.elim h (fun h => (Or.inr (Or.inr (Or.inr (Or.inr (Or.inr (Or.inr (Or.inr (Or.inr (Or.inl h)))))))))) (fun h => (Or.elim h (fun h => (Or.inr (Or.inr (Or.inr (Or.inr (Or.inr (Or.inr (Or.inr (Or.inr (Or.inr (Or.inr (Or.inl h)))))))))))) (fun h => (Or.elim h (fun h => (Or.inr (Or.inr (Or.inr (Or.inr (Or.inr (Or.inr (Or.inr (Or.inr (Or.inr (Or.inr (Or.inr (Or.inl h))))))))))))) (fun h => (Or.inr (Or.inr (Or.inr (Or.inr (Or.inr (Or.inr (Or.inr (Or.inr (Or.inr (Or.inr (Or.inr (Or.inr h)))))))))))))))))))))).trans ((hfg31 k j (fun h => hk (Or.elim h (fun h => (Or.inl h)) (fun h => (Or.elim h (fun h => (Or.inr (Or.inl h))) (fun h => (Or.elim h (fun h => (Or.inr (Or.inr (Or.inl h)))) (fun h => (Or.elim h (fun h => (Or.inr (Or.inr (Or.inr (Or.inl h))))) (fun h => (Or.elim h (fun h => (Or.inr (Or.inr (Or.inr (Or.inr (Or.inl h)))))) (fun h => (Or.elim h (fun h => (Or.inr (Or.inr (Or.inr (Or.inr (Or.inr (Or.inl h))))))) (fun h => (Or.elim h (fun h => (Or.inr (Or.inr (Or.inr (Or.inr (Or.inr (Or.inr (Or.inl h)))))))) (fun h => (Or.elim h (fun h => (Or.inr (Or.inr (Or.inr (Or.inr (Or.inr (Or.inr (Or.inr (Or.inl h))))))))) (fun h => (Or.elim h (fun h => (Or.inr (Or.inr (Or.inr (Or.inr (Or.inr (Or.inr (Or.inr (Or.inr (Or.inl h)))))))))) (fun h => (Or.inr (Or.inr (Or.inr (Or.inr (Or.inr (Or.inr (Or.inr (Or.inr (Or.inr (Or.inl h)))))))))))))))))))))))))))))).trans (hfg21 k j (fun h => hk (Or.elim h (fun h => (Or.inl h)) (fun h => (Or.elim h (fun h => (Or.inr (Or.inl h))) (fun h => (Or.elim h (fun h => (Or.inr (Or.inr (Or.inl h)))) (fun h => (Or.elim h (fun h => (Or.inr (Or.inr (Or.inr (Or.inl h))))) (fun h => (Or.elim h (fun h => (Or.inr (Or.inr (Or.inr (Or.inr (Or.inl h)))))) (fun h => (Or.elim h (fun h => (Or.inr (Or.inr (Or.inr (Or.inr (Or.inr (Or.inl h))))))) (fun h => (Or.elim h (fun h => (Or.inr (Or.inr (Or.inr (Or.inr (Or.inr (Or.inr (Or.inl h)))))))) (fun h => (Or.elim h (fun h => (Or.inr (Or.inr (Or.inr (Or.inr (Or.inr (Or.inr (Or.inr (Or.inl h))))))))) (fun h => (Or.elim h (fun h => (Or.inr (Or.inr (Or.inr (Or.inr (Or.inr (Or.inr (Or.inr (Or.inr (Or.inl h)))))))))) (fun h => (Or.elim h (fun h => (Or.inr (Or.inr (Or.inr (Or.inr (Or.inr (Or.inr (Or.inr (Or.inr (Or.inr (Or.inl h))))))))))) (fun h => (Or.elim h (fun h => (Or.inr (Or.inr (Or.inr (Or.inr (Or.inr (Or.inr (Or.inr (Or.inr (Or.inr (Or.inr (Or.inl h)))))))))))) (fun h => (Or.elim h (fun h => (Or.inr (Or.inr (Or.inr (Or.inr (Or.inr (Or.inr (Or.inr (Or.inr (Or.inr (Or.inr (Or.inr (Or.inl h))))))))))))) (fun h => (Or.inr (Or.inr (Or.inr (Or.inr (Or.inr (Or.inr (Or.inr (Or.inr (Or.inr (Or.inr (Or.inr (Or.inr h))))))))))))))))))))))))))))))))))))))))) (by omega) ⟨fj26, Nat.lt_of_lt_of_le (show ((32 - (v18 + 1)).toNat) < n23 from (by omega)) fn27, hE⟩
              · skip
                replace hE := zf_ip hE c81_38
                refine mm_g 3 (pc1 := 90) (lo1 := [some (.ref 137), some (.int (Int32.ofInt a1)), some (.int (Int32.ofInt a2)), some (.int (Int32.ofInt a3)), some (.int (Int32.ofInt v17)), some (.int (Int32.ofInt v18)), some (.int (Int32.ofInt v29)), some (.int (Int32.ofInt v30))]) (st1 := [.int (Int32.ofInt v30), .int (Int32.ofInt v18), .int (Int32.ofInt v29)]) (H1 := mz_mk g31 x) rfl ?_
                refine mz_cs rfl mt_12_450 (by decide) rfl (Nat.le_of_ble_eq_true rfl) (by omega) (f_X12_isOf (by omega) hx hIg31 (by omega) (by omega) (by omega) (by omega) (fun v48 l_v48 u_v48 hp49 hc50 => ⟨_, rfl, ?_⟩))
                show mm_W d mmX12_seasons 93 [some (.ref 137), some (.int (Int32.ofInt a1)), some (.int (Int32.ofInt a2)), some (.int (Int32.ofInt a3)), some (.int (Int32.ofInt v17)), some (.int (Int32.ofInt v18)), some (.int (Int32.ofInt v29)), some (.int (Int32.ofInt v30))] [.int (Int32.ofInt v48), .int (Int32.ofInt v29)] (mz_mk g31 x) Q
                replace hE := zf_t1 hE hc50
                refine mz_if_eq (tgt := 100) rfl rfl (mz_rg l_v48 u_v48) (fun c93_50 => ?_) (fun c93_50 => ?_)
                · skip
                  replace hE := zf_ip hE c93_50
                  refine mz_bip rfl bip_10 ?_
                  refine mm_g 1 (pc1 := 103) (lo1 := [some (.ref 137), some (.int (Int32.ofInt a1)), some (.int (Int32.ofInt a2)), some (.int (Int32.ofInt a3)), some (.int (Int32.ofInt v17)), some (.int (Int32.ofInt v18)), some (.int (Int32.ofInt v29)), some (.int (Int32.ofInt v30))]) (st1 := [.int (Int32.ofInt a3), .int (Int32.ofInt 10), .int (Int32.ofInt v29)]) (H1 := mz_mk g31 x) rfl ?_
                  refine mz_isub rfl ?_
                  refine mz_imul_w rfl (fun v51 e_v51 hwv51 => ?_)
                  have l_v51 := hwv51.1
                  have u_v51 := hwv51.2
                  replace hE := zf_tr hE (zf_le e_v51.symm)
                  refine mm_g 4 (pc1 := 112) (lo1 := [some (.ref 137), some (.int (Int32.ofInt a1)), some (.int (Int32.ofInt a2)), some (.int (Int32.ofInt a3)), some (.int (Int32.ofInt v17)), some (.int (Int32.ofInt v18)), some (.int (Int32.ofInt v51)), some (.int (Int32.ofInt v30))]) (st1 := [.int (Int32.ofInt v30), .int (Int32.ofInt v18), .ref 137]) (H1 := mz_mk g31 x) rfl ?_
                  refine mz_cs rfl mt_12_450 (by decide) rfl (Nat.le_of_ble_eq_true rfl) (by omega) (f_X12_isOf (by omega) hx hIg31 (by omega) (by omega) (by omega) (by omega) (fun v52 l_v52 u_v52 hp53 hc54 => ⟨_, rfl, ?_⟩))
                  show mm_W d mmX12_seasons 115 [some (.ref 137), some (.int (Int32.ofInt a1)), some (.int (Int32.ofInt a2)), some (.int (Int32.ofInt a3)), some (.int (Int32.ofInt v17)), some (.int (Int32.ofInt v18)), some (.int (Int32.ofInt v51)), some (.int (Int32.ofInt v30))] [.int (Int32.ofInt v52), .ref 137] (mz_mk g31 x) Q
                  replace hE := zf_t1 hE hc54
                  refine mz_if_eq (tgt := 123) rfl rfl (mz_rg l_v52 u_v52) (fun c115_54 => ?_) (fun c115_54 => ?_)
                  · skip
                    replace hE := zf_ip hE c115_54
                    refine mm_g 1 (pc1 := 124) (lo1 := [some (.ref 137), some (.int (Int32.ofInt a1)), some (.int (Int32.ofInt a2)), some (.int (Int32.ofInt a3)), some (.int (Int32.ofInt v17)), some (.int (Int32.ofInt v18)), some (.int (Int32.ofInt v51)), some (.int (Int32.ofInt v30))]) (st1 := [.int (Int32.ofInt 0), .ref 137]) (H1 := mz_mk g31 x) rfl ?_
                    refine mz_cv rfl mt_12_362 (by decide) (sc_137 _) rfl (Nat.le_of_ble_eq_true rfl) (by omega) (f_X12_aDayOf (by omega) hx hIg31 (by decide) (by decide) (mz_pv_fr hpv (fun _j => ((hfg31 149 _j nj_23).trans ((hfg21 149 _j nj_50).trans ((hfg15 149 _j (fun h => (absurd (show 149 = 162 from h) (by decide)))).trans ((hug1.2 149 _j (fun h => absurd h.1 (by decide))).trans rfl))))) ((hfg31 140 3 nj_24).trans ((hfg21 140 3 nj_51).trans ((hfg15 140 3 (fun h => (absurd (show 140 = 162 from h) (by decide)))).trans ((hug1.2 140 3 (fun h => absurd h.1 (by decide))).trans rfl))))) (by omega) (fun g56 hIg56 hfg56 hp57 hc58 => ⟨_, rfl, ?_⟩))
                    show mm_W d mmX12_seasons 127 [some (.ref 137), some (.int (Int32.ofInt a1)), some (.int (Int32.ofInt a2)), some (.int (Int32.ofInt a3)), some (.int (Int32.ofInt v17)), some (.int (Int32.ofInt v18)), some (.int (Int32.ofInt v51)), some (.int (Int32.ofInt v30))] [] (mz_mk g56 x) Q
                    replace hE := zf_t1 hE hc58
                    refine mz_iincR (v := v30) (lo2 := [some (.ref 137), some (.int (Int32.ofInt a1)), some (.int (Int32.ofInt a2)), some (.int (Int32.ofInt a3)), some (.int (Int32.ofInt v17)), some (.int (Int32.ofInt v18)), some (.int (Int32.ofInt v51)), some (.int (Int32.ofInt (v30 + 1)))]) rfl rfl rfl (Nat.le_of_ble_eq_true rfl) rfl ?_
                    refine mz_gt (tgt := 78) rfl rfl ?_
                    exact ih32 ((5 - (v30 + 1)).toNat) (by omega) v51 (v30 + 1) g56 rfl (by omega) (by omega) (by omega) (by omega) hIg56 (fun k j hk => ((hfg56 k j (fun h => hk (Or.elim h (fun h => (Or.inl h)) (fun h => (Or.elim h (fun h => (Or.inr (Or.inl h))) (fun h => (Or.elim h (fun h => (Or.inr (Or.inr (Or.inl h)))) (fun h => (Or.elim h (fun h => (Or.inr (Or.inr (Or.inr (Or.inl h))))) (fun h => (Or.elim h (fun h => (Or.inr (Or.inr (Or.inr (Or.inr (Or.inl h)))))) (fun h => (Or.elim h (fun h => (Or.inr (Or.inr (Or.inr (Or.inr (Or.inr (Or.inl h))))))) (fun h => (Or.elim h (fun h => (Or.inr (Or.inr (Or.inr (Or.inr (Or.inr (Or.inr (Or.inl h)))))))) (fun h => (Or.elim h (fun h => (Or.inr (Or.inr (Or.inr (Or.inr (Or.inr (Or.inr (Or.inr (Or.inl h))))))))) (fun h => (Or.elim h (fun h => (Or.inr (Or.inr (Or.inr (Or.inr (Or.inr (Or.inr (Or.inr (Or.inr (Or.inl h)))))))))) (fun h => (Or.inr (Or.inr (Or.inr (Or.inr (Or.inr (Or.inr (Or.inr (Or.inr (Or.inr h))))))))))))))))))))))))))))).trans (hfg31 k j (fun h => hk (Or.elim h (fun h => (Or.inl h)) (fun h => (Or.elim h (fun h => (Or.inr (Or.inl h))) (fun h => (Or.elim h (fun h => (Or.inr (Or.inr (Or.inl h)))) (fun h => (Or.elim h (fun h => (Or.inr (Or.inr (Or.inr (Or.inl h))))) (fun h => (Or.elim h (fun h => (Or.inr (Or.inr (Or.inr (Or.inr (Or.inl h)))))) (fun h => (Or.elim h (fun h => (Or.inr (Or.inr (Or.inr (Or.inr (Or.inr (Or.inl h))))))) (fun h => (Or.elim h (fun h => (Or.inr (Or.inr (Or.inr (Or.inr (Or.inr (Or.inr (Or.inl h)))))))) (fun h => (Or.elim h (fun h => (Or.inr (Or.inr (Or.inr (Or.inr (Or.inr (Or.inr (Or.inr (Or.inl h))))))))) (fun h => (Or.elim h (fun h => (Or.inr (Or.inr (Or.inr (Or.inr (Or.inr (Or.inr (Or.inr (Or.inr (Or.inl h)))))))))) (fun h => (Or.inr (Or.inr (Or.inr (Or.inr (Or.inr (Or.inr (Or.inr (Or.inr (Or.inr h))))))))))))))))))))))))))))))) (by omega) ⟨fj37, Nat.lt_of_lt_of_le (show ((5 - (v30 + 1)).toNat) < n33 from (by omega)) fn38, hE⟩
                  · skip
                    replace hE := zf_in hE c115_54
                    refine mz_bip rfl bip_9 ?_
                    refine mz_gt (tgt := 124) rfl rfl ?_
                    refine mz_cv rfl mt_12_362 (by decide) (sc_137 _) rfl (Nat.le_of_ble_eq_true rfl) (by omega) (f_X12_aDayOf (by omega) hx hIg31 (by decide) (by decide) (mz_pv_fr hpv (fun _j => ((hfg31 149 _j nj_23).trans ((hfg21 149 _j nj_50).trans ((hfg15 149 _j (fun h => (absurd (show 149 = 162 from h) (by decide)))).trans ((hug1.2 149 _j (fun h => absurd h.1 (by decide))).trans rfl))))) ((hfg31 140 3 nj_24).trans ((hfg21 140 3 nj_51).trans ((hfg15 140 3 (fun h => (absurd (show 140 = 162 from h) (by decide)))).trans ((hug1.2 140 3 (fun h => absurd h.1 (by decide))).trans rfl))))) (by omega) (fun g60 hIg60 hfg60 hp61 hc62 => ⟨_, rfl, ?_⟩))
                    show mm_W d mmX12_seasons 127 [some (.ref 137), some (.int (Int32.ofInt a1)), some (.int (Int32.ofInt a2)), some (.int (Int32.ofInt a3)), some (.int (Int32.ofInt v17)), some (.int (Int32.ofInt v18)), some (.int (Int32.ofInt v51)), some (.int (Int32.ofInt v30))] [] (mz_mk g60 x) Q
                    replace hE := zf_t1 hE hc62
                    refine mz_iincR (v := v30) (lo2 := [some (.ref 137), some (.int (Int32.ofInt a1)), some (.int (Int32.ofInt a2)), some (.int (Int32.ofInt a3)), some (.int (Int32.ofInt v17)), some (.int (Int32.ofInt v18)), some (.int (Int32.ofInt v51)), some (.int (Int32.ofInt (v30 + 1)))]) rfl rfl rfl (Nat.le_of_ble_eq_true rfl) rfl ?_
                    refine mz_gt (tgt := 78) rfl rfl ?_
                    exact ih32 ((5 - (v30 + 1)).toNat) (by omega) v51 (v30 + 1) g60 rfl (by omega) (by omega) (by omega) (by omega) hIg60 (fun k j hk => ((hfg60 k j (fun h => hk (Or.elim h (fun h => (Or.inl h)) (fun h => (Or.elim h (fun h => (Or.inr (Or.inl h))) (fun h => (Or.elim h (fun h => (Or.inr (Or.inr (Or.inl h)))) (fun h => (Or.elim h (fun h => (Or.inr (Or.inr (Or.inr (Or.inl h))))) (fun h => (Or.elim h (fun h => (Or.inr (Or.inr (Or.inr (Or.inr (Or.inl h)))))) (fun h => (Or.elim h (fun h => (Or.inr (Or.inr (Or.inr (Or.inr (Or.inr (Or.inl h))))))) (fun h => (Or.elim h (fun h => (Or.inr (Or.inr (Or.inr (Or.inr (Or.inr (Or.inr (Or.inl h)))))))) (fun h => (Or.elim h (fun h => (Or.inr (Or.inr (Or.inr (Or.inr (Or.inr (Or.inr (Or.inr (Or.inl h))))))))) (fun h => (Or.elim h (fun h => (Or.inr (Or.inr (Or.inr (Or.inr (Or.inr (Or.inr (Or.inr (Or.inr (Or.inl h)))))))))) (fun h => (Or.inr (Or.inr (Or.inr (Or.inr (Or.inr (Or.inr (Or.inr (Or.inr (Or.inr h))))))))))))))))))))))))))))).trans (hfg31 k j (fun h => hk (Or.elim h (fun h => (Or.inl h)) (fun h => (Or.elim h (fun h => (Or.inr (Or.inl h))) (fun h => (Or.elim h (fun h => (Or.inr (Or.inr (Or.inl h)))) (fun h => (Or.elim h (fun h => (Or.inr (Or.inr (Or.inr (Or.inl h))))) (fun h => (Or.elim h (fun h => (Or.inr (Or.inr (Or.inr (Or.inr (Or.inl h)))))) (fun h => (Or.elim h (fun h => (Or.inr (Or.inr (Or.inr (Or.inr (Or.inr (Or.inl h))))))) (fun h => (Or.elim h (fun h => (Or.inr (Or.inr (Or.inr (Or.inr (Or.inr (Or.inr (Or.inl h)))))))) (fun h => (Or.elim h (fun h => (Or.inr (Or.inr (Or.inr (Or.inr (Or.inr (Or.inr (Or.inr (Or.inl h))))))))) (fun h => (Or.elim h (fun h => (Or.inr (Or.inr (Or.inr (Or.inr (Or.inr (Or.inr (Or.inr (Or.inr (Or.inl h)))))))))) (fun h => (Or.inr (Or.inr (Or.inr (Or.inr (Or.inr (Or.inr (Or.inr (Or.inr (Or.inr h))))))))))))))))))))))))))))))) (by omega) ⟨fj37, Nat.lt_of_lt_of_le (show ((5 - (v30 + 1)).toNat) < n33 from (by omega)) fn38, hE⟩
                · skip
                  replace hE := zf_in hE c93_50
                  refine mm_g 1 (pc1 := 97) (lo1 := [some (.ref 137), some (.int (Int32.ofInt a1)), some (.int (Int32.ofInt a2)), some (.int (Int32.ofInt a3)), some (.int (Int32.ofInt v17)), some (.int (Int32.ofInt v18)), some (.int (Int32.ofInt v29)), some (.int (Int32.ofInt v30))]) (st1 := [.int (Int32.ofInt a3), .int (Int32.ofInt v29)]) (H1 := mz_mk g31 x) rfl ?_
                  refine mz_gt (tgt := 104) rfl rfl ?_
                  refine mz_imul_w rfl (fun v63 e_v63 hwv63 => ?_)
                  have l_v63 := hwv63.1
                  have u_v63 := hwv63.2
                  replace hE := zf_tr hE (zf_le e_v63.symm)
                  refine mm_g 4 (pc1 := 112) (lo1 := [some (.ref 137), some (.int (Int32.ofInt a1)), some (.int (Int32.ofInt a2)), some (.int (Int32.ofInt a3)), some (.int (Int32.ofInt v17)), some (.int (Int32.ofInt v18)), some (.int (Int32.ofInt v63)), some (.int (Int32.ofInt v30))]) (st1 := [.int (Int32.ofInt v30), .int (Int32.ofInt v18), .ref 137]) (H1 := mz_mk g31 x) rfl ?_
                  refine mz_cs rfl mt_12_450 (by decide) rfl (Nat.le_of_ble_eq_true rfl) (by omega) (f_X12_isOf (by omega) hx hIg31 (by omega) (by omega) (by omega) (by omega) (fun v64 l_v64 u_v64 hp65 hc66 => ⟨_, rfl, ?_⟩))
                  show mm_W d mmX12_seasons 115 [some (.ref 137), some (.int (Int32.ofInt a1)), some (.int (Int32.ofInt a2)), some (.int (Int32.ofInt a3)), some (.int (Int32.ofInt v17)), some (.int (Int32.ofInt v18)), some (.int (Int32.ofInt v63)), some (.int (Int32.ofInt v30))] [.int (Int32.ofInt v64), .ref 137] (mz_mk g31 x) Q
                  replace hE := zf_t1 hE hc66
                  refine mz_if_eq (tgt := 123) rfl rfl (mz_rg l_v64 u_v64) (fun c115_66 => ?_) (fun c115_66 => ?_)
                  · skip
                    replace hE := zf_ip hE c115_66
                    refine mm_g 1 (pc1 := 124) (lo1 := [some (.ref 137), some (.int (Int32.ofInt a1)), some (.int (Int32.ofInt a2)), some (.int (Int32.ofInt a3)), some (.int (Int32.ofInt v17)), some (.int (Int32.ofInt v18)), some (.int (Int32.ofInt v63)), some (.int (Int32.ofInt v30))]) (st1 := [.int (Int32.ofInt 0), .ref 137]) (H1 := mz_mk g31 x) rfl ?_
                    refine mz_cv rfl mt_12_362 (by decide) (sc_137 _) rfl (Nat.le_of_ble_eq_true rfl) (by omega) (f_X12_aDayOf (by omega) hx hIg31 (by decide) (by decide) (mz_pv_fr hpv (fun _j => ((hfg31 149 _j nj_23).trans ((hfg21 149 _j nj_50).trans ((hfg15 149 _j (fun h => (absurd (show 149 = 162 from h) (by decide)))).trans ((hug1.2 149 _j (fun h => absurd h.1 (by decide))).trans rfl))))) ((hfg31 140 3 nj_24).trans ((hfg21 140 3 nj_51).trans ((hfg15 140 3 (fun h => (absurd (show 140 = 162 from h) (by decide)))).trans ((hug1.2 140 3 (fun h => absurd h.1 (by decide))).trans rfl))))) (by omega) (fun g68 hIg68 hfg68 hp69 hc70 => ⟨_, rfl, ?_⟩))
                    show mm_W d mmX12_seasons 127 [some (.ref 137), some (.int (Int32.ofInt a1)), some (.int (Int32.ofInt a2)), some (.int (Int32.ofInt a3)), some (.int (Int32.ofInt v17)), some (.int (Int32.ofInt v18)), some (.int (Int32.ofInt v63)), some (.int (Int32.ofInt v30))] [] (mz_mk g68 x) Q
                    replace hE := zf_t1 hE hc70
                    refine mz_iincR (v := v30) (lo2 := [some (.ref 137), some (.int (Int32.ofInt a1)), some (.int (Int32.ofInt a2)), some (.int (Int32.ofInt a3)), some (.int (Int32.ofInt v17)), some (.int (Int32.ofInt v18)), some (.int (Int32.ofInt v63)), some (.int (Int32.ofInt (v30 + 1)))]) rfl rfl rfl (Nat.le_of_ble_eq_true rfl) rfl ?_
                    refine mz_gt (tgt := 78) rfl rfl ?_
                    exact ih32 ((5 - (v30 + 1)).toNat) (by omega) v63 (v30 + 1) g68 rfl (by omega) (by omega) (by omega) (by omega) hIg68 (fun k j hk => ((hfg68 k j (fun h => hk (Or.elim h (fun h => (Or.inl h)) (fun h => (Or.elim h (fun h => (Or.inr (Or.inl h))) (fun h => (Or.elim h (fun h => (Or.inr (Or.inr (Or.inl h)))) (fun h => (Or.elim h (fun h => (Or.inr (Or.inr (Or.inr (Or.inl h))))) (fun h => (Or.elim h (fun h => (Or.inr (Or.inr (Or.inr (Or.inr (Or.inl h)))))) (fun h => (Or.elim h (fun h => (Or.inr (Or.inr (Or.inr (Or.inr (Or.inr (Or.inl h))))))) (fun h => (Or.elim h (fun h => (Or.inr (Or.inr (Or.inr (Or.inr (Or.inr (Or.inr (Or.inl h)))))))) (fun h => (Or.elim h (fun h => (Or.inr (Or.inr (Or.inr (Or.inr (Or.inr (Or.inr (Or.inr (Or.inl h))))))))) (fun h => (Or.elim h (fun h => (Or.inr (Or.inr (Or.inr (Or.inr (Or.inr (Or.inr (Or.inr (Or.inr (Or.inl h)))))))))) (fun h => (Or.inr (Or.inr (Or.inr (Or.inr (Or.inr (Or.inr (Or.inr (Or.inr (Or.inr h))))))))))))))))))))))))))))).trans (hfg31 k j (fun h => hk (Or.elim h (fun h => (Or.inl h)) (fun h => (Or.elim h (fun h => (Or.inr (Or.inl h))) (fun h => (Or.elim h (fun h => (Or.inr (Or.inr (Or.inl h)))) (fun h => (Or.elim h (fun h => (Or.inr (Or.inr (Or.inr (Or.inl h))))) (fun h => (Or.elim h (fun h => (Or.inr (Or.inr (Or.inr (Or.inr (Or.inl h)))))) (fun h => (Or.elim h (fun h => (Or.inr (Or.inr (Or.inr (Or.inr (Or.inr (Or.inl h))))))) (fun h => (Or.elim h (fun h => (Or.inr (Or.inr (Or.inr (Or.inr (Or.inr (Or.inr (Or.inl h)))))))) (fun h => (Or.elim h (fun h => (Or.inr (Or.inr (Or.inr (Or.inr (Or.inr (Or.inr (Or.inr (Or.inl h))))))))) (fun h => (Or.elim h (fun h => (Or.inr (Or.inr (Or.inr (Or.inr (Or.inr (Or.inr (Or.inr (Or.inr (Or.inl h)))))))))) (fun h => (Or.inr (Or.inr (Or.inr (Or.inr (Or.inr (Or.inr (Or.inr (Or.inr (Or.inr h))))))))))))))))))))))))))))))) (by omega) ⟨fj37, Nat.lt_of_lt_of_le (show ((5 - (v30 + 1)).toNat) < n33 from (by omega)) fn38, hE⟩
                  · skip
                    replace hE := zf_in hE c115_66
                    refine mz_bip rfl bip_9 ?_
                    refine mz_gt (tgt := 124) rfl rfl ?_
                    refine mz_cv rfl mt_12_362 (by decide) (sc_137 _) rfl (Nat.le_of_ble_eq_true rfl) (by omega) (f_X12_aDayOf (by omega) hx hIg31 (by decide) (by decide) (mz_pv_fr hpv (fun _j => ((hfg31 149 _j nj_23).trans ((hfg21 149 _j nj_50).trans ((hfg15 149 _j (fun h => (absurd (show 149 = 162 from h) (by decide)))).trans ((hug1.2 149 _j (fun h => absurd h.1 (by decide))).trans rfl))))) ((hfg31 140 3 nj_24).trans ((hfg21 140 3 nj_51).trans ((hfg15 140 3 (fun h => (absurd (show 140 = 162 from h) (by decide)))).trans ((hug1.2 140 3 (fun h => absurd h.1 (by decide))).trans rfl))))) (by omega) (fun g72 hIg72 hfg72 hp73 hc74 => ⟨_, rfl, ?_⟩))
                    show mm_W d mmX12_seasons 127 [some (.ref 137), some (.int (Int32.ofInt a1)), some (.int (Int32.ofInt a2)), some (.int (Int32.ofInt a3)), some (.int (Int32.ofInt v17)), some (.int (Int32.ofInt v18)), some (.int (Int32.ofInt v63)), some (.int (Int32.ofInt v30))] [] (mz_mk g72 x) Q
                    replace hE := zf_t1 hE hc74
                    refine mz_iincR (v := v30) (lo2 := [some (.ref 137), some (.int (Int32.ofInt a1)), some (.int (Int32.ofInt a2)), some (.int (Int32.ofInt a3)), some (.int (Int32.ofInt v17)), some (.int (Int32.ofInt v18)), some (.int (Int32.ofInt v63)), some (.int (Int32.ofInt (v30 + 1)))]) rfl rfl rfl (Nat.le_of_ble_eq_true rfl) rfl ?_
                    refine mz_gt (tgt := 78) rfl rfl ?_
                    exact ih32 ((5 - (v30 + 1)).toNat) (by omega) v63 (v30 + 1) g72 rfl (by omega) (by omega) (by omega) (by omega) hIg72 (fun k j hk => ((hfg72 k j (fun h => hk (Or.elim h (fun h => (Or.inl h)) (fun h => (Or.elim h (fun h => (Or.inr (Or.inl h))) (fun h => (Or.elim h (fun h => (Or.inr (Or.inr (Or.inl h)))) (fun h => (Or.elim h (fun h => (Or.inr (Or.inr (Or.inr (Or.inl h))))) (fun h => (Or.elim h (fun h => (Or.inr (Or.inr (Or.inr (Or.inr (Or.inl h)))))) (fun h => (Or.elim h (fun h => (Or.inr (Or.inr (Or.inr (Or.inr (Or.inr (Or.inl h))))))) (fun h => (Or.elim h (fun h => (Or.inr (Or.inr (Or.inr (Or.inr (Or.inr (Or.inr (Or.inl h)))))))) (fun h => (Or.elim h (fun h => (Or.inr (Or.inr (Or.inr (Or.inr (Or.inr (Or.inr (Or.inr (Or.inl h))))))))) (fun h => (Or.elim h (fun h => (Or.inr (Or.inr (Or.inr (Or.inr (Or.inr (Or.inr (Or.inr (Or.inr (Or.inl h)))))))))) (fun h => (Or.inr (Or.inr (Or.inr (Or.inr (Or.inr (Or.inr (Or.inr (Or.inr (Or.inr h))))))))))))))))))))))))))))).trans (hfg31 k j (fun h => hk (Or.elim h (fun h => (Or.inl h)) (fun h => (Or.elim h (fun h => (Or.inr (Or.inl h))) (fun h => (Or.elim h (fun h => (Or.inr (Or.inr (Or.inl h)))) (fun h => (Or.elim h (fun h => (Or.inr (Or.inr (Or.inr (Or.inl h))))) (fun h => (Or.elim h (fun h => (Or.inr (Or.inr (Or.inr (Or.inr (Or.inl h)))))) (fun h => (Or.elim h (fun h => (Or.inr (Or.inr (Or.inr (Or.inr (Or.inr (Or.inl h))))))) (fun h => (Or.elim h (fun h => (Or.inr (Or.inr (Or.inr (Or.inr (Or.inr (Or.inr (Or.inl h)))))))) (fun h => (Or.elim h (fun h => (Or.inr (Or.inr (Or.inr (Or.inr (Or.inr (Or.inr (Or.inr (Or.inl h))))))))) (fun h => (Or.elim h (fun h => (Or.inr (Or.inr (Or.inr (Or.inr (Or.inr (Or.inr (Or.inr (Or.inr (Or.inl h)))))))))) (fun h => (Or.inr (Or.inr (Or.inr (Or.inr (Or.inr (Or.inr (Or.inr (Or.inr (Or.inr h))))))))))))))))))))))))))))))) (by omega) ⟨fj37, Nat.lt_of_lt_of_le (show ((5 - (v30 + 1)).toNat) < n33 from (by omega)) fn38, hE⟩
            exact L35 _ 1 0 g21 rfl (by decide) (by decide) (by decide) (by decide) hIg21 (fun _ _ _ => rfl) (by omega) ⟨3000000000, by omega, zf_rf⟩
        exact L24 _ 0 0 none none g15 rfl (by decide) (by decide) (by decide) (by decide) mz_nl_n mz_nl_n hIg15 (fun _ _ _ => rfl) (by have h9 := (show g15 137 30 = (g 137 30) from ((hfg15 137 30 (fun h => (absurd (show 137 = 162 from h) (by decide)))).trans ((hug1.2 137 30 (fun h => absurd h.2 (by decide))).trans rfl))); omega) ⟨3000000000, by omega, hE⟩
      · skip
        replace hE := zf_ip hE c40_14
        refine mm_g 2 (pc1 := 45) (lo1 := [some (.ref 137), some (.int (Int32.ofInt a1)), some (.int (Int32.ofInt a2)), some (.int (Int32.ofInt a3)), none, none, none, none]) (st1 := [.int (Int32.ofInt 2), .ref 137]) (H1 := mz_mk g1 x) rfl ?_
        refine mz_cv rfl mt_12_294 (by decide) (sc_137 _) rfl (Nat.le_of_ble_eq_true rfl) (by omega) (f_X12_fail (by omega) hx hIg1 (by decide) (by decide) (fun v75 g76 hIg76 hfg76 l_v75 u_v75 hc77 => ⟨_, rfl, ?_⟩))
        show mm_W d mmX12_seasons 48 [some (.ref 137), some (.int (Int32.ofInt a1)), some (.int (Int32.ofInt a2)), some (.int (Int32.ofInt a3)), none, none, none, none] [.int (Int32.ofInt v75)] (mz_mk g76 x) Q
        replace hE := zf_t2 hE hc77
        exact mm_rt rfl rfl (hQ _ _ hIg76 (fun k j hk => ((hfg76 k j (fun h => hk (Or.inl h))).trans (hug1.2 k j (fun h => hk (Or.inl h))))) (by omega) (by omega) (by have h9 := (show g76 137 30 = (g 137 30) from ((hfg76 137 30 (fun h => (absurd (show (137 = 137 ∧ 30 = 2) from h) (by decide)))).trans ((hug1.2 137 30 (fun h => absurd h.2 (by decide))).trans rfl))); omega) hE)
  · skip
    replace hE := zf_ip hE c10_5
    refine mm_g 2 (pc1 := 15) (lo1 := [some (.ref 137), some (.int (Int32.ofInt a1)), some (.int (Int32.ofInt a2)), some (.int (Int32.ofInt a3)), none, none, none, none]) (st1 := [.int (Int32.ofInt 1), .ref 137]) (H1 := mz_mk g1 x) rfl ?_
    refine mz_cv rfl mt_12_294 (by decide) (sc_137 _) rfl (Nat.le_of_ble_eq_true rfl) (by omega) (f_X12_fail (by omega) hx hIg1 (by decide) (by decide) (fun v78 g79 hIg79 hfg79 l_v78 u_v78 hc80 => ⟨_, rfl, ?_⟩))
    show mm_W d mmX12_seasons 18 [some (.ref 137), some (.int (Int32.ofInt a1)), some (.int (Int32.ofInt a2)), some (.int (Int32.ofInt a3)), none, none, none, none] [.int (Int32.ofInt v78)] (mz_mk g79 x) Q
    replace hE := zf_t2 hE hc80
    exact mm_rt rfl rfl (hQ _ _ hIg79 (fun k j hk => ((hfg79 k j (fun h => hk (Or.inl h))).trans (hug1.2 k j (fun h => hk (Or.inl h))))) (by omega) (by omega) (by have h9 := (show g79 137 30 = (g 137 30) from ((hfg79 137 30 (fun h => (absurd (show (137 = 137 ∧ 30 = 2) from h) (by decide)))).trans ((hug1.2 137 30 (fun h => absurd h.2 (by decide))).trans rfl))); omega) hE)
def fl_X12_tellGains_11 (x : mm_X) (a1 : Int) (a2 : Int) : Nat → Nat → Prop := fun k j => (k = 160 ∧ j = 0) ∨ (k = 160 ∧ j = 1) ∨ (k = 160 ∧ j = 2) ∨ (k = 160 ∧ j = 3) ∨ (k = 160 ∧ j = 4) ∨ (k = 160 ∧ j = 5) ∨ (k = 160 ∧ j = 6) ∨ k = 161 ∨ k = 152 ∨ (k = 137 ∧ j = 30) ∨ k = 172 ∨ k = 153 ∨ k = 154 ∨ k = 155
def fw_X12_tellGains (x : mm_X) (a1 : Int) (a2 : Int) : Nat → Nat → Prop := fun k j => k = 162 ∨ (k = 160 ∧ j = 0) ∨ (k = 160 ∧ j = 1) ∨ (k = 160 ∧ j = 2) ∨ (k = 160 ∧ j = 3) ∨ (k = 160 ∧ j = 4) ∨ (k = 160 ∧ j = 5) ∨ (k = 160 ∧ j = 6) ∨ k = 161 ∨ k = 152 ∨ (k = 137 ∧ j = 30) ∨ k = 172 ∨ k = 153 ∨ k = 154 ∨ k = 155
theorem f_X12_tellGains {d : Nat} (hd : 16 ≤ d) {x : mm_X} (hx : mk_x x) {g : mz_G} (hI : mz_inv g) {a1 : Int} (l_a1 : 0 ≤ a1) (u_a1 : a1 ≤ 5) {a2 : Int} (l_a2 : 0 ≤ a2) (u_a2 : a2 ≤ 5) (p1 : mz_pv g) (p2 : g 137 30 ≤ 999) {Q : (Option Value ⊕ Nat) → mm_H → Prop} (hQ : ∀ (g1 : mz_G), mz_inv g1 → mz_fr (fw_X12_tellGains x a1 a2) g g1 → (g1 137 30 ≤ 999) → zf_E (zF_X12_tellGains a1 a2 g) (g1) → Q (.inl none) (mz_mk g1 x)) : mm_C d 285 [.ref 137, .int (Int32.ofInt a1), .int (Int32.ofInt a2)] (mz_mk g x) Q := by
  refine ⟨mmX12_tellGains, [some (.ref 137), some (.int (Int32.ofInt a1)), some (.int (Int32.ofInt a2)), none, none], rfl, rfl, ?_⟩
  have bz0 := mz_rd hI bd_137_30
  have hpv := p1
  have hE : zf_E (zF_X12_tellGains a1 a2 g) (zF_X12_tellGains a1 a2 g) := zf_rf
  refine mm_g 2 (pc1 := 2) (lo1 := [some (.ref 137), some (.int (Int32.ofInt a1)), some (.int (Int32.ofInt a2)), none, none]) (st1 := [.ref 137, .ref 137]) (H1 := mz_mk g x) rfl ?_
  refine mz_fgR (v := 162) rfl fd_12_103 (by decide) (sc_137 _) (rf_137_40 _ _ _) ?_
  refine mm_g 1 (pc1 := 6) (lo1 := [some (.ref 137), some (.int (Int32.ofInt a1)), some (.int (Int32.ofInt a2)), none, none]) (st1 := [.int (Int32.ofInt 0), .ref 162, .ref 137]) (H1 := mz_mk g x) rfl ?_
  refine mz_cv rfl mt_12_397 (by decide) (sc_137 _) rfl (Nat.le_of_ble_eq_true rfl) (by omega) (f_X12_store (by omega) hx hI rwp_162 (by decide) (by decide) (by omega) (by omega) (by omega) (fun g1 hIg1 hfg1 hc2 => ⟨_, rfl, ?_⟩))
  show mm_W d mmX12_tellGains 9 [some (.ref 137), some (.int (Int32.ofInt a1)), some (.int (Int32.ofInt a2)), none, none] [] (mz_mk g1 x) Q
  replace hE := zf_t1 hE hc2
  refine mm_g 2 (pc1 := 11) (lo1 := [some (.ref 137), some (.int (Int32.ofInt a1)), some (.int (Int32.ofInt a2)), some (.int (Int32.ofInt 0)), none]) (st1 := []) (H1 := mz_mk g1 x) rfl ?_
  have L8 : ∀ n7 : Nat, ∀ (v3 : Int) (o4 : Option Value) (g5 : mz_G), (4 - v3).toNat = n7 → 0 ≤ v3 → v3 ≤ 4 → mz_nl o4 → mz_inv g5 → mz_fr (fl_X12_tellGains_11 x a1 a2) g1 g5 → (g5 137 30 ≤ 999) → (∃ fk : Nat, (4 - v3).toNat < fk ∧ zf_E (zF_X12_tellGains a1 a2 g) (zL_X12_tellGains_11 a1 a2 fk v3 g5)) → mm_W d mmX12_tellGains 11 [some (.ref 137), some (.int (Int32.ofInt a1)), some (.int (Int32.ofInt a2)), some (.int (Int32.ofInt v3)), o4] [] (mz_mk g5 x) Q := by
    intro n7
    induction n7 using Nat.strongRecOn with
    | ind n7 ih6 =>
    intro v3 o4 g5 hmn7 l_v3 u_v3 h_o4 hIg5 hfg5 hv9 hF
    obtain ⟨fk, fl, hE⟩ := hF
    obtain ⟨fj10, rfl⟩ : ∃ fj, fk = fj + 1 := ⟨fk - 1, by omega⟩
    have fn11 : n7 ≤ fj10 := by omega
    replace hE := zf_tr hE zL_X12_tellGains_11_s
    have bz_g5_30 := mz_rd hIg5 bd_137_30
    refine mm_g 2 (pc1 := 13) (lo1 := [some (.ref 137), some (.int (Int32.ofInt a1)), some (.int (Int32.ofInt a2)), some (.int (Int32.ofInt v3)), o4]) (st1 := [.int (Int32.ofInt 4), .int (Int32.ofInt v3)]) (H1 := mz_mk g5 x) rfl ?_
    refine mz_ic_ge (tgt := 110) rfl rfl (mz_rg l_v3 u_v3) ⟨by decide, by decide⟩ (fun c13_11 => ?_) (fun c13_11 => ?_)
    · skip
      replace hE := zf_nl hE c13_11
      exact mm_rt rfl rfl (hQ _ hIg5 (fun k j hk => ((hfg5 k j (fun h => hk (Or.elim h (fun h => (Or.inr (Or.inl h))) (fun h => (Or.elim h (fun h => (Or.inr (Or.inr (Or.inl h)))) (fun h => (Or.elim h (fun h => (Or.inr (Or.inr (Or.inr (Or.inl h))))) (fun h => (Or.elim h (fun h => (Or.inr (Or.inr (Or.inr (Or.inr (Or.inl h)))))) (fun h => (Or.elim h (fun h => (Or.inr (Or.inr (Or.inr (Or.inr (Or.inr (Or.inl h))))))) (fun h => (Or.elim h (fun h => (Or.inr (Or.inr (Or.inr (Or.inr (Or.inr (Or.inr (Or.inl h)))))))) (fun h => (Or.elim h (fun h => (Or.inr (Or.inr (Or.inr (Or.inr (Or.inr (Or.inr (Or.inr (Or.inl h))))))))) (fun h => (Or.elim h (fun h => (Or.inr (Or.inr (Or.inr (Or.inr (Or.inr (Or.inr (Or.inr (Or.inr (Or.inl h)))))))))) (fun h => (Or.elim h (fun h => (Or.inr (Or.inr (Or.inr (Or.inr (Or.inr (Or.inr (Or.inr (Or.inr (Or.inr (Or.inl h))))))))))) (fun h => (Or.elim h (fun h => (Or.inr (Or.inr (Or.inr (Or.inr (Or.inr (Or.inr (Or.inr (Or.inr (Or.inr (Or.inr (Or.inl h)))))))))))) (fun h => (Or.elim h (fun h => (Or.inr (Or.inr (Or.inr (Or.inr (Or.inr (Or.inr (Or.inr (Or.inr (Or.inr (Or.inr (Or.inr (Or.inl h))))))))))))) (fun h => (Or.elim h (fun h => (Or.inr (Or.inr (Or.inr (Or.inr (Or.inr (Or.inr (Or.inr (Or.inr (Or.inr (Or.inr (Or.inr (Or.inr (Or.inl h)))))))))))))) (fun h => (Or.elim h (fun h => (Or.inr (Or.inr (Or.inr (Or.inr (Or.inr (Or.inr (Or.inr (Or.inr (Or.inr (Or.inr (Or.inr (Or.inr (Or.inr (Or.inl h))))))))))))))) (fun h => (Or.inr (Or.inr (Or.inr (Or.inr (Or.inr (Or.inr (Or.inr (Or.inr (Or.inr (Or.inr (Or.inr (Or.inr (Or.inr (Or.inr h)))))))))))))))))))))))))))))))))))))))))).trans (hfg1 k j (fun h => hk (Or.inl h))))) (by omega) hE)
    · skip
      replace hE := zf_ip hE c13_11
      refine mm_g 2 (pc1 := 18) (lo1 := [some (.ref 137), some (.int (Int32.ofInt a1)), some (.int (Int32.ofInt a2)), some (.int (Int32.ofInt v3)), o4]) (st1 := [.int (Int32.ofInt 2), .int (Int32.ofInt v3)]) (H1 := mz_mk g5 x) rfl ?_
      refine mz_idivp rfl (mz_rg l_v3 u_v3) ⟨by decide, by decide⟩ (by omega) (by omega) (fun v12 e_v12 => ?_)
      have l_v12 : 0 ≤ v12 := by omega
      have u_v12 : v12 ≤ 1 := by omega
      replace hE := zf_tr hE (zf_le e_v12.symm)
      refine mm_g 1 (pc1 := 20) (lo1 := [some (.ref 137), some (.int (Int32.ofInt a1)), some (.int (Int32.ofInt a2)), some (.int (Int32.ofInt v3)), o4]) (st1 := [.int (Int32.ofInt 1), .int (Int32.ofInt v12)]) (H1 := mz_mk g5 x) rfl ?_
      refine mz_ic_ne (tgt := 31) rfl rfl (mz_rg l_v12 u_v12) ⟨by decide, by decide⟩ (fun c20_12 => ?_) (fun c20_12 => ?_)
      · skip
        replace hE := zf_in hE c20_12
        refine mm_g 2 (pc1 := 33) (lo1 := [some (.ref 137), some (.int (Int32.ofInt a1)), some (.int (Int32.ofInt a2)), some (.int (Int32.ofInt v3)), o4]) (st1 := [.int (Int32.ofInt 2), .int (Int32.ofInt v3)]) (H1 := mz_mk g5 x) rfl ?_
        refine mz_iremq rfl (mz_rg l_v3 u_v3) ⟨by decide, by decide⟩ (by omega) (by omega) (fun v13 e_v13 l_v13 w_v13 z_v13 => ?_)
        have u_v13 : v13 ≤ 1 := by omega
        replace hE := zf_tr hE (zf_le e_v13.symm)
        refine mm_g 1 (pc1 := 35) (lo1 := [some (.ref 137), some (.int (Int32.ofInt a1)), some (.int (Int32.ofInt a2)), some (.int (Int32.ofInt v3)), o4]) (st1 := [.int (Int32.ofInt 1), .int (Int32.ofInt v13)]) (H1 := mz_mk g5 x) rfl ?_
        refine mz_ic_ne (tgt := 46) rfl rfl (mz_rg l_v13 u_v13) ⟨by decide, by decide⟩ (fun c35_13 => ?_) (fun c35_13 => ?_)
        · skip
          replace hE := zf_in hE c35_13
          refine mm_g 2 (pc1 := 48) (lo1 := [some (.ref 137), some (.int (Int32.ofInt a1)), some (.int (Int32.ofInt a2)), some (.int (Int32.ofInt v3)), o4]) (st1 := [.int (Int32.ofInt 4), .ref 137]) (H1 := mz_mk g5 x) rfl ?_
          refine mz_cv rfl mt_12_409 (by decide) (sc_137 _) rfl (Nat.le_of_ble_eq_true rfl) (by omega) (f_X12_goOn (by omega) hx hIg5 (by decide) (by decide) (mz_pv_fr hpv (fun _j => ((hfg5 149 _j nj_52).trans ((hfg1 149 _j (fun h => (absurd (show 149 = 162 from h) (by decide)))).trans rfl))) ((hfg5 140 3 nj_53).trans ((hfg1 140 3 (fun h => (absurd (show 140 = 162 from h) (by decide)))).trans rfl))) (by omega) (fun g15 hIg15 hfg15 hp16 hc17 => ⟨_, rfl, ?_⟩))
          show mm_W d mmX12_tellGains 51 [some (.ref 137), some (.int (Int32.ofInt a1)), some (.int (Int32.ofInt a2)), some (.int (Int32.ofInt v3)), o4] [] (mz_mk g15 x) Q
          replace hE := zf_t1 hE hc17
          refine mm_g 2 (pc1 := 53) (lo1 := [some (.ref 137), some (.int (Int32.ofInt a1)), some (.int (Int32.ofInt a2)), some (.int (Int32.ofInt v3)), o4]) (st1 := [.int (Int32.ofInt a1), .ref 137]) (H1 := mz_mk g15 x) rfl ?_
          refine mz_cv rfl mt_12_368 (by decide) (sc_137 _) rfl (Nat.le_of_ble_eq_true rfl) (by omega) (f_X12_blendSize (by omega) hx hIg15 l_a1 u_a1 (fun v18 l_v18 u_v18 hc19 => ⟨_, rfl, ?_⟩))
          show mm_W d mmX12_tellGains 56 [some (.ref 137), some (.int (Int32.ofInt a1)), some (.int (Int32.ofInt a2)), some (.int (Int32.ofInt v3)), o4] [.int (Int32.ofInt v18)] (mz_mk g15 x) Q
          replace hE := zf_t1 hE hc19
          refine mm_g 2 (pc1 := 58) (lo1 := [some (.ref 137), some (.int (Int32.ofInt a1)), some (.int (Int32.ofInt a2)), some (.int (Int32.ofInt v3)), o4]) (st1 := [.int (Int32.ofInt a2), .ref 137, .int (Int32.ofInt v18)]) (H1 := mz_mk g15 x) rfl ?_
          refine mz_cv rfl mt_12_368 (by decide) (sc_137 _) rfl (Nat.le_of_ble_eq_true rfl) (by omega) (f_X12_blendSize (by omega) hx hIg15 l_a2 u_a2 (fun v20 l_v20 u_v20 hc21 => ⟨_, rfl, ?_⟩))
          show mm_W d mmX12_tellGains 61 [some (.ref 137), some (.int (Int32.ofInt a1)), some (.int (Int32.ofInt a2)), some (.int (Int32.ofInt v3)), o4] [.int (Int32.ofInt v20), .int (Int32.ofInt v18)] (mz_mk g15 x) Q
          replace hE := zf_t1 hE hc21
          refine mz_isub rfl ?_
          refine mm_g 2 (pc1 := 65) (lo1 := [some (.ref 137), some (.int (Int32.ofInt a1)), some (.int (Int32.ofInt a2)), some (.int (Int32.ofInt v3)), some (.int (Int32.ofInt (v18 - v20)))]) (st1 := [.ref 137]) (H1 := mz_mk g15 x) rfl ?_
          refine mz_fgR (v := 172) rfl fd_12_133 (by decide) (sc_137 _) (rf_137_51 _ _ _) ?_
          refine mm_g 2 (pc1 := 70) (lo1 := [some (.ref 137), some (.int (Int32.ofInt a1)), some (.int (Int32.ofInt a2)), some (.int (Int32.ofInt v3)), some (.int (Int32.ofInt (v18 - v20)))]) (st1 := [.int (Int32.ofInt v3), .int (Int32.ofInt 2), .ref 172]) (H1 := mz_mk g15 x) rfl ?_
          refine mz_imul rfl ?_
          refine mm_g 3 (pc1 := 75) (lo1 := [some (.ref 137), some (.int (Int32.ofInt a1)), some (.int (Int32.ofInt a2)), some (.int (Int32.ofInt v3)), some (.int (Int32.ofInt (v18 - v20)))]) (st1 := [.int (Int32.ofInt 2), .int (Int32.ofInt v3), .int (Int32.ofInt (v18 - v20)), .int (Int32.ofInt (2 * v3)), .ref 172]) (H1 := mz_mk g15 x) rfl ?_
          refine mz_idivp rfl (mz_rg l_v3 u_v3) ⟨by decide, by decide⟩ (by omega) (by omega) (fun v22 e_v22 => ?_)
          have l_v22 : 0 ≤ v22 := by omega
          have u_v22 : v22 ≤ 1 := by omega
          replace hE := zf_tr hE (zf_le e_v22.symm)
          refine mz_isub rfl ?_
          refine mz_sI rfl (sh_172 _) (by omega) (by omega) (by decide) hIg15 (ba_172 _) (by omega) (by omega) (fun g23 hIg23 hug23 => ?_)
          replace hE := zf_tr hE (zf_lg hug23)
          refine mm_g 1 (pc1 := 79) (lo1 := [some (.ref 137), some (.int (Int32.ofInt a1)), some (.int (Int32.ofInt a2)), some (.int (Int32.ofInt v3)), some (.int (Int32.ofInt (v18 - v20)))]) (st1 := [.ref 137]) (H1 := mz_mk g23 x) rfl ?_
          refine mz_fgR (v := 172) rfl fd_12_133 (by decide) (sc_137 _) (rf_137_51 _ _ _) ?_
          refine mm_g 2 (pc1 := 84) (lo1 := [some (.ref 137), some (.int (Int32.ofInt a1)), some (.int (Int32.ofInt a2)), some (.int (Int32.ofInt v3)), some (.int (Int32.ofInt (v18 - v20)))]) (st1 := [.int (Int32.ofInt v3), .int (Int32.ofInt 2), .ref 172]) (H1 := mz_mk g23 x) rfl ?_
          refine mz_imul rfl ?_
          refine mm_g 1 (pc1 := 86) (lo1 := [some (.ref 137), some (.int (Int32.ofInt a1)), some (.int (Int32.ofInt a2)), some (.int (Int32.ofInt v3)), some (.int (Int32.ofInt (v18 - v20)))]) (st1 := [.int (Int32.ofInt 1), .int (Int32.ofInt (2 * v3)), .ref 172]) (H1 := mz_mk g23 x) rfl ?_
          refine mz_iadd rfl ?_
          refine mm_g 1 (pc1 := 89) (lo1 := [some (.ref 137), some (.int (Int32.ofInt a1)), some (.int (Int32.ofInt a2)), some (.int (Int32.ofInt v3)), some (.int (Int32.ofInt (v18 - v20)))]) (st1 := [.int (Int32.ofInt (v18 - v20)), .int (Int32.ofInt ((2 * v3) + 1)), .ref 172]) (H1 := mz_mk g23 x) rfl ?_
          refine mz_ineg rfl ?_
          refine mm_g 2 (pc1 := 92) (lo1 := [some (.ref 137), some (.int (Int32.ofInt a1)), some (.int (Int32.ofInt a2)), some (.int (Int32.ofInt v3)), some (.int (Int32.ofInt (v18 - v20)))]) (st1 := [.int (Int32.ofInt 2), .int (Int32.ofInt v3), .int (Int32.ofInt (-(v18 - v20))), .int (Int32.ofInt ((2 * v3) + 1)), .ref 172]) (H1 := mz_mk g23 x) rfl ?_
          refine mz_iremq rfl (mz_rg l_v3 u_v3) ⟨by decide, by decide⟩ (by omega) (by omega) (fun v24 e_v24 l_v24 w_v24 z_v24 => ?_)
          have u_v24 : v24 ≤ 1 := by omega
          replace hE := zf_tr hE (zf_le e_v24.symm)
          refine mz_isub rfl ?_
          refine mz_sI rfl (sh_172 _) (by omega) (by omega) (by decide) hIg23 (ba_172 _) (by omega) (by omega) (fun g25 hIg25 hug25 => ?_)
          replace hE := zf_tr hE (zf_lg hug25)
          refine mm_g 2 (pc1 := 97) (lo1 := [some (.ref 137), some (.int (Int32.ofInt a1)), some (.int (Int32.ofInt a2)), some (.int (Int32.ofInt v3)), some (.int (Int32.ofInt (v18 - v20)))]) (st1 := [.ref 137, .ref 137]) (H1 := mz_mk g25 x) rfl ?_
          refine mz_fgR (v := 162) rfl fd_12_103 (by decide) (sc_137 _) (rf_137_40 _ _ _) ?_
          refine mm_g 1 (pc1 := 101) (lo1 := [some (.ref 137), some (.int (Int32.ofInt a1)), some (.int (Int32.ofInt a2)), some (.int (Int32.ofInt v3)), some (.int (Int32.ofInt (v18 - v20)))]) (st1 := [.int (Int32.ofInt 0), .ref 162, .ref 137]) (H1 := mz_mk g25 x) rfl ?_
          refine mz_cv rfl mt_12_421 (by decide) (sc_137 _) rfl (Nat.le_of_ble_eq_true rfl) (by omega) (f_X12_recall (by omega) hx hIg25 rwp_162 (by decide) (by decide) (by omega) (by omega) (fun g26 hIg26 hfg26 hp27 hc28 => ⟨_, rfl, ?_⟩))
          show mm_W d mmX12_tellGains 104 [some (.ref 137), some (.int (Int32.ofInt a1)), some (.int (Int32.ofInt a2)), some (.int (Int32.ofInt v3)), some (.int (Int32.ofInt (v18 - v20)))] [] (mz_mk g26 x) Q
          replace hE := zf_t1 hE hc28
          refine mz_iincR (v := v3) (lo2 := [some (.ref 137), some (.int (Int32.ofInt a1)), some (.int (Int32.ofInt a2)), some (.int (Int32.ofInt (v3 + 1))), some (.int (Int32.ofInt (v18 - v20)))]) rfl rfl rfl (Nat.le_of_ble_eq_true rfl) rfl ?_
          refine mz_gt (tgt := 11) rfl rfl ?_
          exact ih6 ((4 - (v3 + 1)).toNat) (by omega) (v3 + 1) (some (.int (Int32.ofInt (v18 - v20)))) g26 rfl (by omega) (by omega) (mz_nl_i _) hIg26 (fun k j hk => ((hfg26 k j (fun h => hk (Or.elim h (fun h => (Or.inr (Or.inr (Or.inr (Or.inr (Or.inr (Or.inr (Or.inr (Or.inr (Or.inr (Or.inl h))))))))))) (fun h => (Or.elim h (fun h => (Or.inr (Or.inr (Or.inr (Or.inr (Or.inr (Or.inr (Or.inr (Or.inr (Or.inl h)))))))))) (fun h => (Or.elim h (fun h => (Or.inr (Or.inr (Or.inr (Or.inr (Or.inr (Or.inr (Or.inr (Or.inr (Or.inr (Or.inr (Or.inr (Or.inl h))))))))))))) (fun h => (Or.elim h (fun h => (Or.inr (Or.inr (Or.inr (Or.inr (Or.inr (Or.inr (Or.inr (Or.inr (Or.inr (Or.inr (Or.inr (Or.inr (Or.inl h)))))))))))))) (fun h => (Or.inr (Or.inr (Or.inr (Or.inr (Or.inr (Or.inr (Or.inr (Or.inr (Or.inr (Or.inr (Or.inr (Or.inr (Or.inr h))))))))))))))))))))))).trans ((hug25.2 k j (fun h => hk (Or.inr (Or.inr (Or.inr (Or.inr (Or.inr (Or.inr (Or.inr (Or.inr (Or.inr (Or.inr (Or.inl h.1))))))))))))).trans ((hug23.2 k j (fun h => hk (Or.inr (Or.inr (Or.inr (Or.inr (Or.inr (Or.inr (Or.inr (Or.inr (Or.inr (Or.inr (Or.inl h.1))))))))))))).trans ((hfg15 k j (fun h => hk (Or.elim h (fun h => (Or.inl h)) (fun h => (Or.elim h (fun h => (Or.inr (Or.inl h))) (fun h => (Or.elim h (fun h => (Or.inr (Or.inr (Or.inl h)))) (fun h => (Or.elim h (fun h => (Or.inr (Or.inr (Or.inr (Or.inl h))))) (fun h => (Or.elim h (fun h => (Or.inr (Or.inr (Or.inr (Or.inr (Or.inl h)))))) (fun h => (Or.elim h (fun h => (Or.inr (Or.inr (Or.inr (Or.inr (Or.inr (Or.inl h))))))) (fun h => (Or.elim h (fun h => (Or.inr (Or.inr (Or.inr (Or.inr (Or.inr (Or.inr (Or.inl h)))))))) (fun h => (Or.elim h (fun h => (Or.inr (Or.inr (Or.inr (Or.inr (Or.inr (Or.inr (Or.inr (Or.inl h))))))))) (fun h => (Or.elim h (fun h => (Or.inr (Or.inr (Or.inr (Or.inr (Or.inr (Or.inr (Or.inr (Or.inr (Or.inl h)))))))))) (fun h => (Or.inr (Or.inr (Or.inr (Or.inr (Or.inr (Or.inr (Or.inr (Or.inr (Or.inr (Or.inl h)))))))))))))))))))))))))))))).trans (hfg5 k j (fun h => hk (Or.elim h (fun h => (Or.inl h)) (fun h => (Or.elim h (fun h => (Or.inr (Or.inl h))) (fun h => (Or.elim h (fun h => (Or.inr (Or.inr (Or.inl h)))) (fun h => (Or.elim h (fun h => (Or.inr (Or.inr (Or.inr (Or.inl h))))) (fun h => (Or.elim h (fun h => (Or.inr (Or.inr (Or.inr (Or.inr (Or.inl h)))))) (fun h => (Or.elim h (fun h => (Or.inr (Or.inr (Or.inr (Or.inr (Or.inr (Or.inl h))))))) (fun h => (Or.elim h (fun h => (Or.inr (Or.inr (Or.inr (Or.inr (Or.inr (Or.inr (Or.inl h)))))))) (fun h => (Or.elim h (fun h => (Or.inr (Or.inr (Or.inr (Or.inr (Or.inr (Or.inr (Or.inr (Or.inl h))))))))) (fun h => (Or.elim h (fun h => (Or.inr (Or.inr (Or.inr (Or.inr (Or.inr (Or.inr (Or.inr (Or.inr (Or.inl h)))))))))) (fun h => (Or.elim h (fun h => (Or.inr (Or.inr (Or.inr (Or.inr (Or.inr (Or.inr (Or.inr (Or.inr (Or.inr (Or.inl h))))))))))) (fun h => (Or.elim h (fun h => (Or.inr (Or.inr (Or.inr (Or.inr (Or.inr (Or.inr (Or.inr (Or.inr (Or.inr (Or.inr (Or.inl h)))))))))))) (fun h => (Or.elim h (fun h => (Or.inr (Or.inr (Or.inr (Or.inr (Or.inr (Or.inr (Or.inr (Or.inr (Or.inr (Or.inr (Or.inr (Or.inl h))))))))))))) (fun h => (Or.elim h (fun h => (Or.inr (Or.inr (Or.inr (Or.inr (Or.inr (Or.inr (Or.inr (Or.inr (Or.inr (Or.inr (Or.inr (Or.inr (Or.inl h)))))))))))))) (fun h => (Or.inr (Or.inr (Or.inr (Or.inr (Or.inr (Or.inr (Or.inr (Or.inr (Or.inr (Or.inr (Or.inr (Or.inr (Or.inr h)))))))))))))))))))))))))))))))))))))))))))))) (by omega) ⟨fj10, Nat.lt_of_lt_of_le (show ((4 - (v3 + 1)).toNat) < n7 from (by omega)) fn11, hE⟩
        · skip
          replace hE := zf_ip hE c35_13
          refine mm_g 1 (pc1 := 39) (lo1 := [some (.ref 137), some (.int (Int32.ofInt a1)), some (.int (Int32.ofInt a2)), some (.int (Int32.ofInt v3)), o4]) (st1 := [.ref 137]) (H1 := mz_mk g5 x) rfl ?_
          refine mz_fgR (v := 155) rfl fd_12_82 (by decide) (sc_137 _) (rf_137_28 _ _ _) ?_
          refine mm_g 1 (pc1 := 43) (lo1 := [some (.ref 137), some (.int (Int32.ofInt a1)), some (.int (Int32.ofInt a2)), some (.int (Int32.ofInt v3)), o4]) (st1 := [.int (Int32.ofInt a2), .ref 155]) (H1 := mz_mk g5 x) rfl ?_
          refine mz_bip rfl bip_9 ?_
          refine mz_sI rfl (sh_155 _) (by omega) (by omega) (by decide) hIg5 (ba_155 _) (by omega) (by omega) (fun g29 hIg29 hug29 => ?_)
          replace hE := zf_tr hE (zf_lg hug29)
          refine mm_g 2 (pc1 := 48) (lo1 := [some (.ref 137), some (.int (Int32.ofInt a1)), some (.int (Int32.ofInt a2)), some (.int (Int32.ofInt v3)), o4]) (st1 := [.int (Int32.ofInt 4), .ref 137]) (H1 := mz_mk g29 x) rfl ?_
          have hq30 : g29 137 30 = (g5 137 30) := (show g29 137 30 = (g5 137 30) from ((hug29.2 137 30 (fun h => absurd h.1 (by decide))).trans rfl))
          refine mz_cv rfl mt_12_409 (by decide) (sc_137 _) rfl (Nat.le_of_ble_eq_true rfl) (by omega) (f_X12_goOn (by omega) hx hIg29 (by decide) (by decide) (mz_pv_fr hpv (fun _j => ((hug29.2 149 _j (fun h => absurd h.1 (by decide))).trans ((hfg5 149 _j nj_52).trans ((hfg1 149 _j (fun h => (absurd (show 149 = 162 from h) (by decide)))).trans rfl)))) ((hug29.2 140 3 (fun h => absurd h.1 (by decide))).trans ((hfg5 140 3 nj_53).trans ((hfg1 140 3 (fun h => (absurd (show 140 = 162 from h) (by decide)))).trans rfl)))) (by have h9 := (show g29 137 30 = (g5 137 30) from ((hug29.2 137 30 (fun h => absurd h.1 (by decide))).trans rfl)); omega) (fun g31 hIg31 hfg31 hp32 hc33 => ⟨_, rfl, ?_⟩))
          show mm_W d mmX12_tellGains 51 [some (.ref 137), some (.int (Int32.ofInt a1)), some (.int (Int32.ofInt a2)), some (.int (Int32.ofInt v3)), o4] [] (mz_mk g31 x) Q
          replace hE := zf_t1 hE hc33
          refine mm_g 2 (pc1 := 53) (lo1 := [some (.ref 137), some (.int (Int32.ofInt a1)), some (.int (Int32.ofInt a2)), some (.int (Int32.ofInt v3)), o4]) (st1 := [.int (Int32.ofInt a1), .ref 137]) (H1 := mz_mk g31 x) rfl ?_
          refine mz_cv rfl mt_12_368 (by decide) (sc_137 _) rfl (Nat.le_of_ble_eq_true rfl) (by omega) (f_X12_blendSize (by omega) hx hIg31 l_a1 u_a1 (fun v34 l_v34 u_v34 hc35 => ⟨_, rfl, ?_⟩))
          show mm_W d mmX12_tellGains 56 [some (.ref 137), some (.int (Int32.ofInt a1)), some (.int (Int32.ofInt a2)), some (.int (Int32.ofInt v3)), o4] [.int (Int32.ofInt v34)] (mz_mk g31 x) Q
          replace hE := zf_t1 hE hc35
          refine mm_g 2 (pc1 := 58) (lo1 := [some (.ref 137), some (.int (Int32.ofInt a1)), some (.int (Int32.ofInt a2)), some (.int (Int32.ofInt v3)), o4]) (st1 := [.int (Int32.ofInt a2), .ref 137, .int (Int32.ofInt v34)]) (H1 := mz_mk g31 x) rfl ?_
          refine mz_cv rfl mt_12_368 (by decide) (sc_137 _) rfl (Nat.le_of_ble_eq_true rfl) (by omega) (f_X12_blendSize (by omega) hx hIg31 l_a2 u_a2 (fun v36 l_v36 u_v36 hc37 => ⟨_, rfl, ?_⟩))
          show mm_W d mmX12_tellGains 61 [some (.ref 137), some (.int (Int32.ofInt a1)), some (.int (Int32.ofInt a2)), some (.int (Int32.ofInt v3)), o4] [.int (Int32.ofInt v36), .int (Int32.ofInt v34)] (mz_mk g31 x) Q
          replace hE := zf_t1 hE hc37
          refine mz_isub rfl ?_
          refine mm_g 2 (pc1 := 65) (lo1 := [some (.ref 137), some (.int (Int32.ofInt a1)), some (.int (Int32.ofInt a2)), some (.int (Int32.ofInt v3)), some (.int (Int32.ofInt (v34 - v36)))]) (st1 := [.ref 137]) (H1 := mz_mk g31 x) rfl ?_
          refine mz_fgR (v := 172) rfl fd_12_133 (by decide) (sc_137 _) (rf_137_51 _ _ _) ?_
          refine mm_g 2 (pc1 := 70) (lo1 := [some (.ref 137), some (.int (Int32.ofInt a1)), some (.int (Int32.ofInt a2)), some (.int (Int32.ofInt v3)), some (.int (Int32.ofInt (v34 - v36)))]) (st1 := [.int (Int32.ofInt v3), .int (Int32.ofInt 2), .ref 172]) (H1 := mz_mk g31 x) rfl ?_
          refine mz_imul rfl ?_
          refine mm_g 3 (pc1 := 75) (lo1 := [some (.ref 137), some (.int (Int32.ofInt a1)), some (.int (Int32.ofInt a2)), some (.int (Int32.ofInt v3)), some (.int (Int32.ofInt (v34 - v36)))]) (st1 := [.int (Int32.ofInt 2), .int (Int32.ofInt v3), .int (Int32.ofInt (v34 - v36)), .int (Int32.ofInt (2 * v3)), .ref 172]) (H1 := mz_mk g31 x) rfl ?_
          refine mz_idivp rfl (mz_rg l_v3 u_v3) ⟨by decide, by decide⟩ (by omega) (by omega) (fun v38 e_v38 => ?_)
          have l_v38 : 0 ≤ v38 := by omega
          have u_v38 : v38 ≤ 1 := by omega
          replace hE := zf_tr hE (zf_le e_v38.symm)
          refine mz_isub rfl ?_
          refine mz_sI rfl (sh_172 _) (by omega) (by omega) (by decide) hIg31 (ba_172 _) (by omega) (by omega) (fun g39 hIg39 hug39 => ?_)
          replace hE := zf_tr hE (zf_lg hug39)
          refine mm_g 1 (pc1 := 79) (lo1 := [some (.ref 137), some (.int (Int32.ofInt a1)), some (.int (Int32.ofInt a2)), some (.int (Int32.ofInt v3)), some (.int (Int32.ofInt (v34 - v36)))]) (st1 := [.ref 137]) (H1 := mz_mk g39 x) rfl ?_
          refine mz_fgR (v := 172) rfl fd_12_133 (by decide) (sc_137 _) (rf_137_51 _ _ _) ?_
          refine mm_g 2 (pc1 := 84) (lo1 := [some (.ref 137), some (.int (Int32.ofInt a1)), some (.int (Int32.ofInt a2)), some (.int (Int32.ofInt v3)), some (.int (Int32.ofInt (v34 - v36)))]) (st1 := [.int (Int32.ofInt v3), .int (Int32.ofInt 2), .ref 172]) (H1 := mz_mk g39 x) rfl ?_
          refine mz_imul rfl ?_
          refine mm_g 1 (pc1 := 86) (lo1 := [some (.ref 137), some (.int (Int32.ofInt a1)), some (.int (Int32.ofInt a2)), some (.int (Int32.ofInt v3)), some (.int (Int32.ofInt (v34 - v36)))]) (st1 := [.int (Int32.ofInt 1), .int (Int32.ofInt (2 * v3)), .ref 172]) (H1 := mz_mk g39 x) rfl ?_
          refine mz_iadd rfl ?_
          refine mm_g 1 (pc1 := 89) (lo1 := [some (.ref 137), some (.int (Int32.ofInt a1)), some (.int (Int32.ofInt a2)), some (.int (Int32.ofInt v3)), some (.int (Int32.ofInt (v34 - v36)))]) (st1 := [.int (Int32.ofInt (v34 - v36)), .int (Int32.ofInt ((2 * v3) + 1)), .ref 172]) (H1 := mz_mk g39 x) rfl ?_
          refine mz_ineg rfl ?_
          refine mm_g 2 (pc1 := 92) (lo1 := [some (.ref 137), some (.int (Int32.ofInt a1)), some (.int (Int32.ofInt a2)), some (.int (Int32.ofInt v3)), some (.int (Int32.ofInt (v34 - v36)))]) (st1 := [.int (Int32.ofInt 2), .int (Int32.ofInt v3), .int (Int32.ofInt (-(v34 - v36))), .int (Int32.ofInt ((2 * v3) + 1)), .ref 172]) (H1 := mz_mk g39 x) rfl ?_
          refine mz_iremq rfl (mz_rg l_v3 u_v3) ⟨by decide, by decide⟩ (by omega) (by omega) (fun v40 e_v40 l_v40 w_v40 z_v40 => ?_)
          have u_v40 : v40 ≤ 1 := by omega
          replace hE := zf_tr hE (zf_le e_v40.symm)
          refine mz_isub rfl ?_
          refine mz_sI rfl (sh_172 _) (by omega) (by omega) (by decide) hIg39 (ba_172 _) (by omega) (by omega) (fun g41 hIg41 hug41 => ?_)
          replace hE := zf_tr hE (zf_lg hug41)
          refine mm_g 2 (pc1 := 97) (lo1 := [some (.ref 137), some (.int (Int32.ofInt a1)), some (.int (Int32.ofInt a2)), some (.int (Int32.ofInt v3)), some (.int (Int32.ofInt (v34 - v36)))]) (st1 := [.ref 137, .ref 137]) (H1 := mz_mk g41 x) rfl ?_
          refine mz_fgR (v := 162) rfl fd_12_103 (by decide) (sc_137 _) (rf_137_40 _ _ _) ?_
          refine mm_g 1 (pc1 := 101) (lo1 := [some (.ref 137), some (.int (Int32.ofInt a1)), some (.int (Int32.ofInt a2)), some (.int (Int32.ofInt v3)), some (.int (Int32.ofInt (v34 - v36)))]) (st1 := [.int (Int32.ofInt 0), .ref 162, .ref 137]) (H1 := mz_mk g41 x) rfl ?_
          refine mz_cv rfl mt_12_421 (by decide) (sc_137 _) rfl (Nat.le_of_ble_eq_true rfl) (by omega) (f_X12_recall (by omega) hx hIg41 rwp_162 (by decide) (by decide) (by omega) (by omega) (fun g42 hIg42 hfg42 hp43 hc44 => ⟨_, rfl, ?_⟩))
          show mm_W d mmX12_tellGains 104 [some (.ref 137), some (.int (Int32.ofInt a1)), some (.int (Int32.ofInt a2)), some (.int (Int32.ofInt v3)), some (.int (Int32.ofInt (v34 - v36)))] [] (mz_mk g42 x) Q
          replace hE := zf_t1 hE hc44
          refine mz_iincR (v := v3) (lo2 := [some (.ref 137), some (.int (Int32.ofInt a1)), some (.int (Int32.ofInt a2)), some (.int (Int32.ofInt (v3 + 1))), some (.int (Int32.ofInt (v34 - v36)))]) rfl rfl rfl (Nat.le_of_ble_eq_true rfl) rfl ?_
          refine mz_gt (tgt := 11) rfl rfl ?_
          exact ih6 ((4 - (v3 + 1)).toNat) (by omega) (v3 + 1) (some (.int (Int32.ofInt (v34 - v36)))) g42 rfl (by omega) (by omega) (mz_nl_i _) hIg42 (fun k j hk => ((hfg42 k j (fun h => hk (Or.elim h (fun h => (Or.inr (Or.inr (Or.inr (Or.inr (Or.inr (Or.inr (Or.inr (Or.inr (Or.inr (Or.inl h))))))))))) (fun h => (Or.elim h (fun h => (Or.inr (Or.inr (Or.inr (Or.inr (Or.inr (Or.inr (Or.inr (Or.inr (Or.inl h)))))))))) (fun h => (Or.elim h (fun h => (Or.inr (Or.inr (Or.inr (Or.inr (Or.inr (Or.inr (Or.inr (Or.inr (Or.inr (Or.inr (Or.inr (Or.inl h))))))))))))) (fun h => (Or.elim h (fun h => (Or.inr (Or.inr (Or.inr (Or.inr (Or.inr (Or.inr (Or.inr (Or.inr (Or.inr (Or.inr (Or.inr (Or.inr (Or.inl h)))))))))))))) (fun h => (Or.inr (Or.inr (Or.inr (Or.inr (Or.inr (Or.inr (Or.inr (Or.inr (Or.inr (Or.inr (Or.inr (Or.inr (Or.inr h))))))))))))))))))))))).trans ((hug41.2 k j (fun h => hk (Or.inr (Or.inr (Or.inr (Or.inr (Or.inr (Or.inr (Or.inr (Or.inr (Or.inr (Or.inr (Or.inl h.1))))))))))))).trans ((hug39.2 k j (fun h => hk (Or.inr (Or.inr (Or.inr (Or.inr (Or.inr (Or.inr (Or.inr (Or.inr (Or.inr (Or.inr (Or.inl h.1))))))))))))).trans ((hfg31 k j (fun h => hk (Or.elim h (fun h => (Or.inl h)) (fun h => (Or.elim h (fun h => (Or.inr (Or.inl h))) (fun h => (Or.elim h (fun h => (Or.inr (Or.inr (Or.inl h)))) (fun h => (Or.elim h (fun h => (Or.inr (Or.inr (Or.inr (Or.inl h))))) (fun h => (Or.elim h (fun h => (Or.inr (Or.inr (Or.inr (Or.inr (Or.inl h)))))) (fun h => (Or.elim h (fun h => (Or.inr (Or.inr (Or.inr (Or.inr (Or.inr (Or.inl h))))))) (fun h => (Or.elim h (fun h => (Or.inr (Or.inr (Or.inr (Or.inr (Or.inr (Or.inr (Or.inl h)))))))) (fun h => (Or.elim h (fun h => (Or.inr (Or.inr (Or.inr (Or.inr (Or.inr (Or.inr (Or.inr (Or.inl h))))))))) (fun h => (Or.elim h (fun h => (Or.inr (Or.inr (Or.inr (Or.inr (Or.inr (Or.inr (Or.inr (Or.inr (Or.inl h)))))))))) (fun h => (Or.inr (Or.inr (Or.inr (Or.inr (Or.inr (Or.inr (Or.inr (Or.inr (Or.inr (Or.inl h)))))))))))))))))))))))))))))).trans ((hug29.2 k j (fun h => hk (Or.inr (Or.inr (Or.inr (Or.inr (Or.inr (Or.inr (Or.inr (Or.inr (Or.inr (Or.inr (Or.inr (Or.inr (Or.inr h.1))))))))))))))).trans (hfg5 k j (fun h => hk (Or.elim h (fun h => (Or.inl h)) (fun h => (Or.elim h (fun h => (Or.inr (Or.inl h))) (fun h => (Or.elim h (fun h => (Or.inr (Or.inr (Or.inl h)))) (fun h => (Or.elim h (fun h => (Or.inr (Or.inr (Or.inr (Or.inl h))))) (fun h => (Or.elim h (fun h => (Or.inr (Or.inr (Or.inr (Or.inr (Or.inl h)))))) (fun h => (Or.elim h (fun h => (Or.inr (Or.inr (Or.inr (Or.inr (Or.inr (Or.inl h))))))) (fun h => (Or.elim h (fun h => (Or.inr (Or.inr (Or.inr (Or.inr (Or.inr (Or.inr (Or.inl h)))))))) (fun h => (Or.elim h (fun h => (Or.inr (Or.inr (Or.inr (Or.inr (Or.inr (Or.inr (Or.inr (Or.inl h))))))))) (fun h => (Or.elim h (fun h => (Or.inr (Or.inr (Or.inr (Or.inr (Or.inr (Or.inr (Or.inr (Or.inr (Or.inl h)))))))))) (fun h => (Or.elim h (fun h => (Or.inr (Or.inr (Or.inr (Or.inr (Or.inr (Or.inr (Or.inr (Or.inr (Or.inr (Or.inl h))))))))))) (fun h => (Or.elim h (fun h => (Or.inr (Or.inr (Or.inr (Or.inr (Or.inr (Or.inr (Or.inr (Or.inr (Or.inr (Or.inr (Or.inl h)))))))))))) (fun h => (Or.elim h (fun h => (Or.inr (Or.inr (Or.inr (Or.inr (Or.inr (Or.inr (Or.inr (Or.inr (Or.inr (Or.inr (Or.inr (Or.inl h))))))))))))) (fun h => (Or.elim h (fun h => (Or.inr (Or.inr (Or.inr (Or.inr (Or.inr (Or.inr (Or.inr (Or.inr (Or.inr (Or.inr (Or.inr (Or.inr (Or.inl h)))))))))))))) (fun h => (Or.inr (Or.inr (Or.inr (Or.inr (Or.inr (Or.inr (Or.inr (Or.inr (Or.inr (Or.inr (Or.inr (Or.inr (Or.inr h))))))))))))))))))))))))))))))))))))))))))))))) (by omega) ⟨fj10, Nat.lt_of_lt_of_le (show ((4 - (v3 + 1)).toNat) < n7 from (by omega)) fn11, hE⟩
      · skip
        replace hE := zf_ip hE c20_12
        refine mm_g 1 (pc1 := 24) (lo1 := [some (.ref 137), some (.int (Int32.ofInt a1)), some (.int (Int32.ofInt a2)), some (.int (Int32.ofInt v3)), o4]) (st1 := [.ref 137]) (H1 := mz_mk g5 x) rfl ?_
        refine mz_fgR (v := 155) rfl fd_12_82 (by decide) (sc_137 _) (rf_137_28 _ _ _) ?_
        refine mm_g 1 (pc1 := 28) (lo1 := [some (.ref 137), some (.int (Int32.ofInt a1)), some (.int (Int32.ofInt a2)), some (.int (Int32.ofInt v3)), o4]) (st1 := [.int (Int32.ofInt a1), .ref 155]) (H1 := mz_mk g5 x) rfl ?_
        refine mz_bip rfl bip_9 ?_
        refine mz_sI rfl (sh_155 _) (by omega) (by omega) (by decide) hIg5 (ba_155 _) (by omega) (by omega) (fun g45 hIg45 hug45 => ?_)
        replace hE := zf_tr hE (zf_lg hug45)
        refine mm_g 2 (pc1 := 33) (lo1 := [some (.ref 137), some (.int (Int32.ofInt a1)), some (.int (Int32.ofInt a2)), some (.int (Int32.ofInt v3)), o4]) (st1 := [.int (Int32.ofInt 2), .int (Int32.ofInt v3)]) (H1 := mz_mk g45 x) rfl ?_
        refine mz_iremq rfl (mz_rg l_v3 u_v3) ⟨by decide, by decide⟩ (by omega) (by omega) (fun v46 e_v46 l_v46 w_v46 z_v46 => ?_)
        have u_v46 : v46 ≤ 1 := by omega
        replace hE := zf_tr hE (zf_le e_v46.symm)
        refine mm_g 1 (pc1 := 35) (lo1 := [some (.ref 137), some (.int (Int32.ofInt a1)), some (.int (Int32.ofInt a2)), some (.int (Int32.ofInt v3)), o4]) (st1 := [.int (Int32.ofInt 1), .int (Int32.ofInt v46)]) (H1 := mz_mk g45 x) rfl ?_
        refine mz_ic_ne (tgt := 46) rfl rfl (mz_rg l_v46 u_v46) ⟨by decide, by decide⟩ (fun c35_46 => ?_) (fun c35_46 => ?_)
        · skip
          replace hE := zf_in hE c35_46
          refine mm_g 2 (pc1 := 48) (lo1 := [some (.ref 137), some (.int (Int32.ofInt a1)), some (.int (Int32.ofInt a2)), some (.int (Int32.ofInt v3)), o4]) (st1 := [.int (Int32.ofInt 4), .ref 137]) (H1 := mz_mk g45 x) rfl ?_
          have hq47 : g45 137 30 = (g5 137 30) := (show g45 137 30 = (g5 137 30) from ((hug45.2 137 30 (fun h => absurd h.1 (by decide))).trans rfl))
          refine mz_cv rfl mt_12_409 (by decide) (sc_137 _) rfl (Nat.le_of_ble_eq_true rfl) (by omega) (f_X12_goOn (by omega) hx hIg45 (by decide) (by decide) (mz_pv_fr hpv (fun _j => ((hug45.2 149 _j (fun h => absurd h.1 (by decide))).trans ((hfg5 149 _j nj_52).trans ((hfg1 149 _j (fun h => (absurd (show 149 = 162 from h) (by decide)))).trans rfl)))) ((hug45.2 140 3 (fun h => absurd h.1 (by decide))).trans ((hfg5 140 3 nj_53).trans ((hfg1 140 3 (fun h => (absurd (show 140 = 162 from h) (by decide)))).trans rfl)))) (by have h9 := (show g45 137 30 = (g5 137 30) from ((hug45.2 137 30 (fun h => absurd h.1 (by decide))).trans rfl)); omega) (fun g48 hIg48 hfg48 hp49 hc50 => ⟨_, rfl, ?_⟩))
          show mm_W d mmX12_tellGains 51 [some (.ref 137), some (.int (Int32.ofInt a1)), some (.int (Int32.ofInt a2)), some (.int (Int32.ofInt v3)), o4] [] (mz_mk g48 x) Q
          replace hE := zf_t1 hE hc50
          refine mm_g 2 (pc1 := 53) (lo1 := [some (.ref 137), some (.int (Int32.ofInt a1)), some (.int (Int32.ofInt a2)), some (.int (Int32.ofInt v3)), o4]) (st1 := [.int (Int32.ofInt a1), .ref 137]) (H1 := mz_mk g48 x) rfl ?_
          refine mz_cv rfl mt_12_368 (by decide) (sc_137 _) rfl (Nat.le_of_ble_eq_true rfl) (by omega) (f_X12_blendSize (by omega) hx hIg48 l_a1 u_a1 (fun v51 l_v51 u_v51 hc52 => ⟨_, rfl, ?_⟩))
          show mm_W d mmX12_tellGains 56 [some (.ref 137), some (.int (Int32.ofInt a1)), some (.int (Int32.ofInt a2)), some (.int (Int32.ofInt v3)), o4] [.int (Int32.ofInt v51)] (mz_mk g48 x) Q
          replace hE := zf_t1 hE hc52
          refine mm_g 2 (pc1 := 58) (lo1 := [some (.ref 137), some (.int (Int32.ofInt a1)), some (.int (Int32.ofInt a2)), some (.int (Int32.ofInt v3)), o4]) (st1 := [.int (Int32.ofInt a2), .ref 137, .int (Int32.ofInt v51)]) (H1 := mz_mk g48 x) rfl ?_
          refine mz_cv rfl mt_12_368 (by decide) (sc_137 _) rfl (Nat.le_of_ble_eq_true rfl) (by omega) (f_X12_blendSize (by omega) hx hIg48 l_a2 u_a2 (fun v53 l_v53 u_v53 hc54 => ⟨_, rfl, ?_⟩))
          show mm_W d mmX12_tellGains 61 [some (.ref 137), some (.int (Int32.ofInt a1)), some (.int (Int32.ofInt a2)), some (.int (Int32.ofInt v3)), o4] [.int (Int32.ofInt v53), .int (Int32.ofInt v51)] (mz_mk g48 x) Q
          replace hE := zf_t1 hE hc54
          refine mz_isub rfl ?_
          refine mm_g 2 (pc1 := 65) (lo1 := [some (.ref 137), some (.int (Int32.ofInt a1)), some (.int (Int32.ofInt a2)), some (.int (Int32.ofInt v3)), some (.int (Int32.ofInt (v51 - v53)))]) (st1 := [.ref 137]) (H1 := mz_mk g48 x) rfl ?_
          refine mz_fgR (v := 172) rfl fd_12_133 (by decide) (sc_137 _) (rf_137_51 _ _ _) ?_
          refine mm_g 2 (pc1 := 70) (lo1 := [some (.ref 137), some (.int (Int32.ofInt a1)), some (.int (Int32.ofInt a2)), some (.int (Int32.ofInt v3)), some (.int (Int32.ofInt (v51 - v53)))]) (st1 := [.int (Int32.ofInt v3), .int (Int32.ofInt 2), .ref 172]) (H1 := mz_mk g48 x) rfl ?_
          refine mz_imul rfl ?_
          refine mm_g 3 (pc1 := 75) (lo1 := [some (.ref 137), some (.int (Int32.ofInt a1)), some (.int (Int32.ofInt a2)), some (.int (Int32.ofInt v3)), some (.int (Int32.ofInt (v51 - v53)))]) (st1 := [.int (Int32.ofInt 2), .int (Int32.ofInt v3), .int (Int32.ofInt (v51 - v53)), .int (Int32.ofInt (2 * v3)), .ref 172]) (H1 := mz_mk g48 x) rfl ?_
          refine mz_idivp rfl (mz_rg l_v3 u_v3) ⟨by decide, by decide⟩ (by omega) (by omega) (fun v55 e_v55 => ?_)
          have l_v55 : 0 ≤ v55 := by omega
          have u_v55 : v55 ≤ 1 := by omega
          replace hE := zf_tr hE (zf_le e_v55.symm)
          refine mz_isub rfl ?_
          refine mz_sI rfl (sh_172 _) (by omega) (by omega) (by decide) hIg48 (ba_172 _) (by omega) (by omega) (fun g56 hIg56 hug56 => ?_)
          replace hE := zf_tr hE (zf_lg hug56)
          refine mm_g 1 (pc1 := 79) (lo1 := [some (.ref 137), some (.int (Int32.ofInt a1)), some (.int (Int32.ofInt a2)), some (.int (Int32.ofInt v3)), some (.int (Int32.ofInt (v51 - v53)))]) (st1 := [.ref 137]) (H1 := mz_mk g56 x) rfl ?_
          refine mz_fgR (v := 172) rfl fd_12_133 (by decide) (sc_137 _) (rf_137_51 _ _ _) ?_
          refine mm_g 2 (pc1 := 84) (lo1 := [some (.ref 137), some (.int (Int32.ofInt a1)), some (.int (Int32.ofInt a2)), some (.int (Int32.ofInt v3)), some (.int (Int32.ofInt (v51 - v53)))]) (st1 := [.int (Int32.ofInt v3), .int (Int32.ofInt 2), .ref 172]) (H1 := mz_mk g56 x) rfl ?_
          refine mz_imul rfl ?_
          refine mm_g 1 (pc1 := 86) (lo1 := [some (.ref 137), some (.int (Int32.ofInt a1)), some (.int (Int32.ofInt a2)), some (.int (Int32.ofInt v3)), some (.int (Int32.ofInt (v51 - v53)))]) (st1 := [.int (Int32.ofInt 1), .int (Int32.ofInt (2 * v3)), .ref 172]) (H1 := mz_mk g56 x) rfl ?_
          refine mz_iadd rfl ?_
          refine mm_g 1 (pc1 := 89) (lo1 := [some (.ref 137), some (.int (Int32.ofInt a1)), some (.int (Int32.ofInt a2)), some (.int (Int32.ofInt v3)), some (.int (Int32.ofInt (v51 - v53)))]) (st1 := [.int (Int32.ofInt (v51 - v53)), .int (Int32.ofInt ((2 * v3) + 1)), .ref 172]) (H1 := mz_mk g56 x) rfl ?_
          refine mz_ineg rfl ?_
          refine mm_g 2 (pc1 := 92) (lo1 := [some (.ref 137), some (.int (Int32.ofInt a1)), some (.int (Int32.ofInt a2)), some (.int (Int32.ofInt v3)), some (.int (Int32.ofInt (v51 - v53)))]) (st1 := [.int (Int32.ofInt 2), .int (Int32.ofInt v3), .int (Int32.ofInt (-(v51 - v53))), .int (Int32.ofInt ((2 * v3) + 1)), .ref 172]) (H1 := mz_mk g56 x) rfl ?_
          refine mz_iremq rfl (mz_rg l_v3 u_v3) ⟨by decide, by decide⟩ (by omega) (by omega) (fun v57 e_v57 l_v57 w_v57 z_v57 => ?_)
          have u_v57 : v57 ≤ 1 := by omega
          replace hE := zf_tr hE (zf_le e_v57.symm)
          refine mz_isub rfl ?_
          refine mz_sI rfl (sh_172 _) (by omega) (by omega) (by decide) hIg56 (ba_172 _) (by omega) (by omega) (fun g58 hIg58 hug58 => ?_)
          replace hE := zf_tr hE (zf_lg hug58)
          refine mm_g 2 (pc1 := 97) (lo1 := [some (.ref 137), some (.int (Int32.ofInt a1)), some (.int (Int32.ofInt a2)), some (.int (Int32.ofInt v3)), some (.int (Int32.ofInt (v51 - v53)))]) (st1 := [.ref 137, .ref 137]) (H1 := mz_mk g58 x) rfl ?_
          refine mz_fgR (v := 162) rfl fd_12_103 (by decide) (sc_137 _) (rf_137_40 _ _ _) ?_
          refine mm_g 1 (pc1 := 101) (lo1 := [some (.ref 137), some (.int (Int32.ofInt a1)), some (.int (Int32.ofInt a2)), some (.int (Int32.ofInt v3)), some (.int (Int32.ofInt (v51 - v53)))]) (st1 := [.int (Int32.ofInt 0), .ref 162, .ref 137]) (H1 := mz_mk g58 x) rfl ?_
          refine mz_cv rfl mt_12_421 (by decide) (sc_137 _) rfl (Nat.le_of_ble_eq_true rfl) (by omega) (f_X12_recall (by omega) hx hIg58 rwp_162 (by decide) (by decide) (by omega) (by omega) (fun g59 hIg59 hfg59 hp60 hc61 => ⟨_, rfl, ?_⟩))
          show mm_W d mmX12_tellGains 104 [some (.ref 137), some (.int (Int32.ofInt a1)), some (.int (Int32.ofInt a2)), some (.int (Int32.ofInt v3)), some (.int (Int32.ofInt (v51 - v53)))] [] (mz_mk g59 x) Q
          replace hE := zf_t1 hE hc61
          refine mz_iincR (v := v3) (lo2 := [some (.ref 137), some (.int (Int32.ofInt a1)), some (.int (Int32.ofInt a2)), some (.int (Int32.ofInt (v3 + 1))), some (.int (Int32.ofInt (v51 - v53)))]) rfl rfl rfl (Nat.le_of_ble_eq_true rfl) rfl ?_
          refine mz_gt (tgt := 11) rfl rfl ?_
          exact ih6 ((4 - (v3 + 1)).toNat) (by omega) (v3 + 1) (some (.int (Int32.ofInt (v51 - v53)))) g59 rfl (by omega) (by omega) (mz_nl_i _) hIg59 (fun k j hk => ((hfg59 k j (fun h => hk (Or.elim h (fun h => (Or.inr (Or.inr (Or.inr (Or.inr (Or.inr (Or.inr (Or.inr (Or.inr (Or.inr (Or.inl h))))))))))) (fun h => (Or.elim h (fun h => (Or.inr (Or.inr (Or.inr (Or.inr (Or.inr (Or.inr (Or.inr (Or.inr (Or.inl h)))))))))) (fun h => (Or.elim h (fun h => (Or.inr (Or.inr (Or.inr (Or.inr (Or.inr (Or.inr (Or.inr (Or.inr (Or.inr (Or.inr (Or.inr (Or.inl h))))))))))))) (fun h => (Or.elim h (fun h => (Or.inr (Or.inr (Or.inr (Or.inr (Or.inr (Or.inr (Or.inr (Or.inr (Or.inr (Or.inr (Or.inr (Or.inr (Or.inl h)))))))))))))) (fun h => (Or.inr (Or.inr (Or.inr (Or.inr (Or.inr (Or.inr (Or.inr (Or.inr (Or.inr (Or.inr (Or.inr (Or.inr (Or.inr h))))))))))))))))))))))).trans ((hug58.2 k j (fun h => hk (Or.inr (Or.inr (Or.inr (Or.inr (Or.inr (Or.inr (Or.inr (Or.inr (Or.inr (Or.inr (Or.inl h.1))))))))))))).trans ((hug56.2 k j (fun h => hk (Or.inr (Or.inr (Or.inr (Or.inr (Or.inr (Or.inr (Or.inr (Or.inr (Or.inr (Or.inr (Or.inl h.1))))))))))))).trans ((hfg48 k j (fun h => hk (Or.elim h (fun h => (Or.inl h)) (fun h => (Or.elim h (fun h => (Or.inr (Or.inl h))) (fun h => (Or.elim h (fun h => (Or.inr (Or.inr (Or.inl h)))) (fun h => (Or.elim h (fun h => (Or.inr (Or.inr (Or.inr (Or.inl h))))) (fun h => (Or.elim h (fun h => (Or.inr (Or.inr (Or.inr (Or.inr (Or.inl h)))))) (fun h => (Or.elim h (fun h => (Or.inr (Or.inr (Or.inr (Or.inr (Or.inr (Or.inl h))))))) (fun h => (Or.elim h (fun h => (Or.inr (Or.inr (Or.inr (Or.inr (Or.inr (Or.inr (Or.inl h)))))))) (fun h => (Or.elim h (fun h => (Or.inr (Or.inr (Or.inr (Or.inr (Or.inr (Or.inr (Or.inr (Or.inl h))))))))) (fun h => (Or.elim h (fun h => (Or.inr (Or.inr (Or.inr (Or.inr (Or.inr (Or.inr (Or.inr (Or.inr (Or.inl h)))))))))) (fun h => (Or.inr (Or.inr (Or.inr (Or.inr (Or.inr (Or.inr (Or.inr (Or.inr (Or.inr (Or.inl h)))))))))))))))))))))))))))))).trans ((hug45.2 k j (fun h => hk (Or.inr (Or.inr (Or.inr (Or.inr (Or.inr (Or.inr (Or.inr (Or.inr (Or.inr (Or.inr (Or.inr (Or.inr (Or.inr h.1))))))))))))))).trans (hfg5 k j (fun h => hk (Or.elim h (fun h => (Or.inl h)) (fun h => (Or.elim h (fun h => (Or.inr (Or.inl h))) (fun h => (Or.elim h (fun h => (Or.inr (Or.inr (Or.inl h)))) (fun h => (Or.elim h (fun h => (Or.inr (Or.inr (Or.inr (Or.inl h))))) (fun h => (Or.elim h (fun h => (Or.inr (Or.inr (Or.inr (Or.inr (Or.inl h)))))) (fun h => (Or.elim h (fun h => (Or.inr (Or.inr (Or.inr (Or.inr (Or.inr (Or.inl h))))))) (fun h => (Or.elim h (fun h => (Or.inr (Or.inr (Or.inr (Or.inr (Or.inr (Or.inr (Or.inl h)))))))) (fun h => (Or.elim h (fun h => (Or.inr (Or.inr (Or.inr (Or.inr (Or.inr (Or.inr (Or.inr (Or.inl h))))))))) (fun h => (Or.elim h (fun h => (Or.inr (Or.inr (Or.inr (Or.inr (Or.inr (Or.inr (Or.inr (Or.inr (Or.inl h)))))))))) (fun h => (Or.elim h (fun h => (Or.inr (Or.inr (Or.inr (Or.inr (Or.inr (Or.inr (Or.inr (Or.inr (Or.inr (Or.inl h))))))))))) (fun h => (Or.elim h (fun h => (Or.inr (Or.inr (Or.inr (Or.inr (Or.inr (Or.inr (Or.inr (Or.inr (Or.inr (Or.inr (Or.inl h)))))))))))) (fun h => (Or.elim h (fun h => (Or.inr (Or.inr (Or.inr (Or.inr (Or.inr (Or.inr (Or.inr (Or.inr (Or.inr (Or.inr (Or.inr (Or.inl h))))))))))))) (fun h => (Or.elim h (fun h => (Or.inr (Or.inr (Or.inr (Or.inr (Or.inr (Or.inr (Or.inr (Or.inr (Or.inr (Or.inr (Or.inr (Or.inr (Or.inl h)))))))))))))) (fun h => (Or.inr (Or.inr (Or.inr (Or.inr (Or.inr (Or.inr (Or.inr (Or.inr (Or.inr (Or.inr (Or.inr (Or.inr (Or.inr h))))))))))))))))))))))))))))))))))))))))))))))) (by omega) ⟨fj10, Nat.lt_of_lt_of_le (show ((4 - (v3 + 1)).toNat) < n7 from (by omega)) fn11, hE⟩
        · skip
          replace hE := zf_ip hE c35_46
          refine mm_g 1 (pc1 := 39) (lo1 := [some (.ref 137), some (.int (Int32.ofInt a1)), some (.int (Int32.ofInt a2)), some (.int (Int32.ofInt v3)), o4]) (st1 := [.ref 137]) (H1 := mz_mk g45 x) rfl ?_
          refine mz_fgR (v := 155) rfl fd_12_82 (by decide) (sc_137 _) (rf_137_28 _ _ _) ?_
          refine mm_g 1 (pc1 := 43) (lo1 := [some (.ref 137), some (.int (Int32.ofInt a1)), some (.int (Int32.ofInt a2)), some (.int (Int32.ofInt v3)), o4]) (st1 := [.int (Int32.ofInt a2), .ref 155]) (H1 := mz_mk g45 x) rfl ?_
          refine mz_bip rfl bip_9 ?_
          refine mz_sI rfl (sh_155 _) (by omega) (by omega) (by decide) hIg45 (ba_155 _) (by omega) (by omega) (fun g62 hIg62 hug62 => ?_)
          replace hE := zf_tr hE (zf_lg hug62)
          refine mm_g 2 (pc1 := 48) (lo1 := [some (.ref 137), some (.int (Int32.ofInt a1)), some (.int (Int32.ofInt a2)), some (.int (Int32.ofInt v3)), o4]) (st1 := [.int (Int32.ofInt 4), .ref 137]) (H1 := mz_mk g62 x) rfl ?_
          have hq63 : g62 137 30 = (g5 137 30) := (show g62 137 30 = (g5 137 30) from ((hug62.2 137 30 (fun h => absurd h.1 (by decide))).trans ((hug45.2 137 30 (fun h => absurd h.1 (by decide))).trans rfl)))
          refine mz_cv rfl mt_12_409 (by decide) (sc_137 _) rfl (Nat.le_of_ble_eq_true rfl) (by omega) (f_X12_goOn (by omega) hx hIg62 (by decide) (by decide) (mz_pv_fr hpv (fun _j => ((hug62.2 149 _j (fun h => absurd h.1 (by decide))).trans ((hug45.2 149 _j (fun h => absurd h.1 (by decide))).trans ((hfg5 149 _j nj_52).trans ((hfg1 149 _j (fun h => (absurd (show 149 = 162 from h) (by decide)))).trans rfl))))) ((hug62.2 140 3 (fun h => absurd h.1 (by decide))).trans ((hug45.2 140 3 (fun h => absurd h.1 (by decide))).trans ((hfg5 140 3 nj_53).trans ((hfg1 140 3 (fun h => (absurd (show 140 = 162 from h) (by decide)))).trans rfl))))) (by have h9 := (show g62 137 30 = (g5 137 30) from ((hug62.2 137 30 (fun h => absurd h.1 (by decide))).trans ((hug45.2 137 30 (fun h => absurd h.1 (by decide))).trans rfl))); omega) (fun g64 hIg64 hfg64 hp65 hc66 => ⟨_, rfl, ?_⟩))
          show mm_W d mmX12_tellGains 51 [some (.ref 137), some (.int (Int32.ofInt a1)), some (.int (Int32.ofInt a2)), some (.int (Int32.ofInt v3)), o4] [] (mz_mk g64 x) Q
          replace hE := zf_t1 hE hc66
          refine mm_g 2 (pc1 := 53) (lo1 := [some (.ref 137), some (.int (Int32.ofInt a1)), some (.int (Int32.ofInt a2)), some (.int (Int32.ofInt v3)), o4]) (st1 := [.int (Int32.ofInt a1), .ref 137]) (H1 := mz_mk g64 x) rfl ?_
          refine mz_cv rfl mt_12_368 (by decide) (sc_137 _) rfl (Nat.le_of_ble_eq_true rfl) (by omega) (f_X12_blendSize (by omega) hx hIg64 l_a1 u_a1 (fun v67 l_v67 u_v67 hc68 => ⟨_, rfl, ?_⟩))
          show mm_W d mmX12_tellGains 56 [some (.ref 137), some (.int (Int32.ofInt a1)), some (.int (Int32.ofInt a2)), some (.int (Int32.ofInt v3)), o4] [.int (Int32.ofInt v67)] (mz_mk g64 x) Q
          replace hE := zf_t1 hE hc68
          refine mm_g 2 (pc1 := 58) (lo1 := [some (.ref 137), some (.int (Int32.ofInt a1)), some (.int (Int32.ofInt a2)), some (.int (Int32.ofInt v3)), o4]) (st1 := [.int (Int32.ofInt a2), .ref 137, .int (Int32.ofInt v67)]) (H1 := mz_mk g64 x) rfl ?_
          refine mz_cv rfl mt_12_368 (by decide) (sc_137 _) rfl (Nat.le_of_ble_eq_true rfl) (by omega) (f_X12_blendSize (by omega) hx hIg64 l_a2 u_a2 (fun v69 l_v69 u_v69 hc70 => ⟨_, rfl, ?_⟩))
          show mm_W d mmX12_tellGains 61 [some (.ref 137), some (.int (Int32.ofInt a1)), some (.int (Int32.ofInt a2)), some (.int (Int32.ofInt v3)), o4] [.int (Int32.ofInt v69), .int (Int32.ofInt v67)] (mz_mk g64 x) Q
          replace hE := zf_t1 hE hc70
          refine mz_isub rfl ?_
          refine mm_g 2 (pc1 := 65) (lo1 := [some (.ref 137), some (.int (Int32.ofInt a1)), some (.int (Int32.ofInt a2)), some (.int (Int32.ofInt v3)), some (.int (Int32.ofInt (v67 - v69)))]) (st1 := [.ref 137]) (H1 := mz_mk g64 x) rfl ?_
          refine mz_fgR (v := 172) rfl fd_12_133 (by decide) (sc_137 _) (rf_137_51 _ _ _) ?_
          refine mm_g 2 (pc1 := 70) (lo1 := [some (.ref 137), some (.int (Int32.ofInt a1)), some (.int (Int32.ofInt a2)), some (.int (Int32.ofInt v3)), some (.int (Int32.ofInt (v67 - v69)))]) (st1 := [.int (Int32.ofInt v3), .int (Int32.ofInt 2), .ref 172]) (H1 := mz_mk g64 x) rfl ?_
          refine mz_imul rfl ?_
          refine mm_g 3 (pc1 := 75) (lo1 := [some (.ref 137), some (.int (Int32.ofInt a1)), some (.int (Int32.ofInt a2)), some (.int (Int32.ofInt v3)), some (.int (Int32.ofInt (v67 - v69)))]) (st1 := [.int (Int32.ofInt 2), .int (Int32.ofInt v3), .int (Int32.ofInt (v67 - v69)), .int (Int32.ofInt (2 * v3)), .ref 172]) (H1 := mz_mk g64 x) rfl ?_
          refine mz_idivp rfl (mz_rg l_v3 u_v3) ⟨by decide, by decide⟩ (by omega) (by omega) (fun v71 e_v71 => ?_)
          have l_v71 : 0 ≤ v71 := by omega
          have u_v71 : v71 ≤ 1 := by omega
          replace hE := zf_tr hE (zf_le e_v71.symm)
          refine mz_isub rfl ?_
          refine mz_sI rfl (sh_172 _) (by omega) (by omega) (by decide) hIg64 (ba_172 _) (by omega) (by omega) (fun g72 hIg72 hug72 => ?_)
          replace hE := zf_tr hE (zf_lg hug72)
          refine mm_g 1 (pc1 := 79) (lo1 := [some (.ref 137), some (.int (Int32.ofInt a1)), some (.int (Int32.ofInt a2)), some (.int (Int32.ofInt v3)), some (.int (Int32.ofInt (v67 - v69)))]) (st1 := [.ref 137]) (H1 := mz_mk g72 x) rfl ?_
          refine mz_fgR (v := 172) rfl fd_12_133 (by decide) (sc_137 _) (rf_137_51 _ _ _) ?_
          refine mm_g 2 (pc1 := 84) (lo1 := [some (.ref 137), some (.int (Int32.ofInt a1)), some (.int (Int32.ofInt a2)), some (.int (Int32.ofInt v3)), some (.int (Int32.ofInt (v67 - v69)))]) (st1 := [.int (Int32.ofInt v3), .int (Int32.ofInt 2), .ref 172]) (H1 := mz_mk g72 x) rfl ?_
          refine mz_imul rfl ?_
          refine mm_g 1 (pc1 := 86) (lo1 := [some (.ref 137), some (.int (Int32.ofInt a1)), some (.int (Int32.ofInt a2)), some (.int (Int32.ofInt v3)), some (.int (Int32.ofInt (v67 - v69)))]) (st1 := [.int (Int32.ofInt 1), .int (Int32.ofInt (2 * v3)), .ref 172]) (H1 := mz_mk g72 x) rfl ?_
          refine mz_iadd rfl ?_
          refine mm_g 1 (pc1 := 89) (lo1 := [some (.ref 137), some (.int (Int32.ofInt a1)), some (.int (Int32.ofInt a2)), some (.int (Int32.ofInt v3)), some (.int (Int32.ofInt (v67 - v69)))]) (st1 := [.int (Int32.ofInt (v67 - v69)), .int (Int32.ofInt ((2 * v3) + 1)), .ref 172]) (H1 := mz_mk g72 x) rfl ?_
          refine mz_ineg rfl ?_
          refine mm_g 2 (pc1 := 92) (lo1 := [some (.ref 137), some (.int (Int32.ofInt a1)), some (.int (Int32.ofInt a2)), some (.int (Int32.ofInt v3)), some (.int (Int32.ofInt (v67 - v69)))]) (st1 := [.int (Int32.ofInt 2), .int (Int32.ofInt v3), .int (Int32.ofInt (-(v67 - v69))), .int (Int32.ofInt ((2 * v3) + 1)), .ref 172]) (H1 := mz_mk g72 x) rfl ?_
          refine mz_iremq rfl (mz_rg l_v3 u_v3) ⟨by decide, by decide⟩ (by omega) (by omega) (fun v73 e_v73 l_v73 w_v73 z_v73 => ?_)
          have u_v73 : v73 ≤ 1 := by omega
          replace hE := zf_tr hE (zf_le e_v73.symm)
          refine mz_isub rfl ?_
          refine mz_sI rfl (sh_172 _) (by omega) (by omega) (by decide) hIg72 (ba_172 _) (by omega) (by omega) (fun g74 hIg74 hug74 => ?_)
          replace hE := zf_tr hE (zf_lg hug74)
          refine mm_g 2 (pc1 := 97) (lo1 := [some (.ref 137), some (.int (Int32.ofInt a1)), some (.int (Int32.ofInt a2)), some (.int (Int32.ofInt v3)), some (.int (Int32.ofInt (v67 - v69)))]) (st1 := [.ref 137, .ref 137]) (H1 := mz_mk g74 x) rfl ?_
          refine mz_fgR (v := 162) rfl fd_12_103 (by decide) (sc_137 _) (rf_137_40 _ _ _) ?_
          refine mm_g 1 (pc1 := 101) (lo1 := [some (.ref 137), some (.int (Int32.ofInt a1)), some (.int (Int32.ofInt a2)), some (.int (Int32.ofInt v3)), some (.int (Int32.ofInt (v67 - v69)))]) (st1 := [.int (Int32.ofInt 0), .ref 162, .ref 137]) (H1 := mz_mk g74 x) rfl ?_
          refine mz_cv rfl mt_12_421 (by decide) (sc_137 _) rfl (Nat.le_of_ble_eq_true rfl) (by omega) (f_X12_recall (by omega) hx hIg74 rwp_162 (by decide) (by decide) (by omega) (by omega) (fun g75 hIg75 hfg75 hp76 hc77 => ⟨_, rfl, ?_⟩))
          show mm_W d mmX12_tellGains 104 [some (.ref 137), some (.int (Int32.ofInt a1)), some (.int (Int32.ofInt a2)), some (.int (Int32.ofInt v3)), some (.int (Int32.ofInt (v67 - v69)))] [] (mz_mk g75 x) Q
          replace hE := zf_t1 hE hc77
          refine mz_iincR (v := v3) (lo2 := [some (.ref 137), some (.int (Int32.ofInt a1)), some (.int (Int32.ofInt a2)), some (.int (Int32.ofInt (v3 + 1))), some (.int (Int32.ofInt (v67 - v69)))]) rfl rfl rfl (Nat.le_of_ble_eq_true rfl) rfl ?_
          refine mz_gt (tgt := 11) rfl rfl ?_
          exact ih6 ((4 - (v3 + 1)).toNat) (by omega) (v3 + 1) (some (.int (Int32.ofInt (v67 - v69)))) g75 rfl (by omega) (by omega) (mz_nl_i _) hIg75 (fun k j hk => ((hfg75 k j (fun h => hk (Or.elim h (fun h => (Or.inr (Or.inr (Or.inr (Or.inr (Or.inr (Or.inr (Or.inr (Or.inr (Or.inr (Or.inl h))))))))))) (fun h => (Or.elim h (fun h => (Or.inr (Or.inr (Or.inr (Or.inr (Or.inr (Or.inr (Or.inr (Or.inr (Or.inl h)))))))))) (fun h => (Or.elim h (fun h => (Or.inr (Or.inr (Or.inr (Or.inr (Or.inr (Or.inr (Or.inr (Or.inr (Or.inr (Or.inr (Or.inr (Or.inl h))))))))))))) (fun h => (Or.elim h (fun h => (Or.inr (Or.inr (Or.inr (Or.inr (Or.inr (Or.inr (Or.inr (Or.inr (Or.inr (Or.inr (Or.inr (Or.inr (Or.inl h)))))))))))))) (fun h => (Or.inr (Or.inr (Or.inr (Or.inr (Or.inr (Or.inr (Or.inr (Or.inr (Or.inr (Or.inr (Or.inr (Or.inr (Or.inr h))))))))))))))))))))))).trans ((hug74.2 k j (fun h => hk (Or.inr (Or.inr (Or.inr (Or.inr (Or.inr (Or.inr (Or.inr (Or.inr (Or.inr (Or.inr (Or.inl h.1))))))))))))).trans ((hug72.2 k j (fun h => hk (Or.inr (Or.inr (Or.inr (Or.inr (Or.inr (Or.inr (Or.inr (Or.inr (Or.inr (Or.inr (Or.inl h.1))))))))))))).trans ((hfg64 k j (fun h => hk (Or.elim h (fun h => (Or.inl h)) (fun h => (Or.elim h (fun h => (Or.inr (Or.inl h))) (fun h => (Or.elim h (fun h => (Or.inr (Or.inr (Or.inl h)))) (fun h => (Or.elim h (fun h => (Or.inr (Or.inr (Or.inr (Or.inl h))))) (fun h => (Or.elim h (fun h => (Or.inr (Or.inr (Or.inr (Or.inr (Or.inl h)))))) (fun h => (Or.elim h (fun h => (Or.inr (Or.inr (Or.inr (Or.inr (Or.inr (Or.inl h))))))) (fun h => (Or.elim h (fun h => (Or.inr (Or.inr (Or.inr (Or.inr (Or.inr (Or.inr (Or.inl h)))))))) (fun h => (Or.elim h (fun h => (Or.inr (Or.inr (Or.inr (Or.inr (Or.inr (Or.inr (Or.inr (Or.inl h))))))))) (fun h => (Or.elim h (fun h => (Or.inr (Or.inr (Or.inr (Or.inr (Or.inr (Or.inr (Or.inr (Or.inr (Or.inl h)))))))))) (fun h => (Or.inr (Or.inr (Or.inr (Or.inr (Or.inr (Or.inr (Or.inr (Or.inr (Or.inr (Or.inl h)))))))))))))))))))))))))))))).trans ((hug62.2 k j (fun h => hk (Or.inr (Or.inr (Or.inr (Or.inr (Or.inr (Or.inr (Or.inr (Or.inr (Or.inr (Or.inr (Or.inr (Or.inr (Or.inr h.1))))))))))))))).trans ((hug45.2 k j (fun h => hk (Or.inr (Or.inr (Or.inr (Or.inr (Or.inr (Or.inr (Or.inr (Or.inr (Or.inr (Or.inr (Or.inr (Or.inr (Or.inr h.1))))))))))))))).trans (hfg5 k j (fun h => hk (Or.elim h (fun h => (Or.inl h)) (fun h => (Or.elim h (fun h => (Or.inr (Or.inl h))) (fun h => (Or.elim h (fun h => (Or.inr (Or.inr (Or.inl h)))) (fun h => (Or.elim h (fun h => (Or.inr (Or.inr (Or.inr (Or.inl h))))) (fun h => (Or.elim h (fun h => (Or.inr (Or.inr (Or.inr (Or.inr (Or.inl h)))))) (fun h => (Or.elim h (fun h => (Or.inr (Or.inr (Or.inr (Or.inr (Or.inr (Or.inl h))))))) (fun h => (Or.elim h (fun h => (Or.inr (Or.inr (Or.inr (Or.inr (Or.inr (Or.inr (Or.inl h)))))))) (fun h => (Or.elim h (fun h => (Or.inr (Or.inr (Or.inr (Or.inr (Or.inr (Or.inr (Or.inr (Or.inl h))))))))) (fun h => (Or.elim h (fun h => (Or.inr (Or.inr (Or.inr (Or.inr (Or.inr (Or.inr (Or.inr (Or.inr (Or.inl h)))))))))) (fun h => (Or.elim h (fun h => (Or.inr (Or.inr (Or.inr (Or.inr (Or.inr (Or.inr (Or.inr (Or.inr (Or.inr (Or.inl h))))))))))) (fun h => (Or.elim h (fun h => (Or.inr (Or.inr (Or.inr (Or.inr (Or.inr (Or.inr (Or.inr (Or.inr (Or.inr (Or.inr (Or.inl h)))))))))))) (fun h => (Or.elim h (fun h => (Or.inr (Or.inr (Or.inr (Or.inr (Or.inr (Or.inr (Or.inr (Or.inr (Or.inr (Or.inr (Or.inr (Or.inl h))))))))))))) (fun h => (Or.elim h (fun h => (Or.inr (Or.inr (Or.inr (Or.inr (Or.inr (Or.inr (Or.inr (Or.inr (Or.inr (Or.inr (Or.inr (Or.inr (Or.inl h)))))))))))))) (fun h => (Or.inr (Or.inr (Or.inr (Or.inr (Or.inr (Or.inr (Or.inr (Or.inr (Or.inr (Or.inr (Or.inr (Or.inr (Or.inr h)))))))))))))))))))))))))))))))))))))))))))))))) (by omega) ⟨fj10, Nat.lt_of_lt_of_le (show ((4 - (v3 + 1)).toNat) < n7 from (by omega)) fn11, hE⟩
  exact L8 _ 0 none g1 rfl (by decide) (by decide) mz_nl_n hIg1 (fun _ _ _ => rfl) (by have h9 := (show g1 137 30 = (g 137 30) from ((hfg1 137 30 (fun h => (absurd (show 137 = 162 from h) (by decide)))).trans rfl)); omega) ⟨3000000000, by omega, hE⟩
def fw_X12_game (x : mm_X) (a1 : Int) (a2 : Int) (a3 : Int) : Nat → Nat → Prop := fun k j => (k = 137 ∧ j = 2) ∨ k = 162 ∨ (k = 160 ∧ j = 0) ∨ (k = 160 ∧ j = 1) ∨ (k = 160 ∧ j = 2) ∨ (k = 160 ∧ j = 3) ∨ (k = 160 ∧ j = 4) ∨ (k = 160 ∧ j = 5) ∨ (k = 160 ∧ j = 6) ∨ k = 161 ∨ k = 152 ∨ (k = 137 ∧ j = 30) ∨ k = 172 ∨ k = 153 ∨ k = 154 ∨ k = 155
theorem f_X12_game {d : Nat} (hd : 17 ≤ d) {x : mm_X} (hx : mk_x x) {g : mz_G} (hI : mz_inv g) {a1 : Int} (l_a1 : (-2147483648) ≤ a1) (u_a1 : a1 ≤ 2147483647) {a2 : Int} (l_a2 : (-2147483648) ≤ a2) (u_a2 : a2 ≤ 2147483647) {a3 : Int} (l_a3 : (-2147483648) ≤ a3) (u_a3 : a3 ≤ 2147483647) (p1 : mz_pv g) (p2 : g 137 30 ≤ 999) {Q : (Option Value ⊕ Nat) → mm_H → Prop} (hQ : ∀ (r : Int) (g1 : mz_G), mz_inv g1 → mz_fr (fw_X12_game x a1 a2 a3) g g1 → (-2147483648) ≤ r → r ≤ 2147483647 → (g1 137 30 ≤ 999) → zf_E (zF_X12_game a1 a2 a3 g) ((r, g1)) → Q (.inl (some (.int (Int32.ofInt r)))) (mz_mk g1 x)) : mm_C d 286 [.ref 137, .int (Int32.ofInt a1), .int (Int32.ofInt a2), .int (Int32.ofInt a3)] (mz_mk g x) Q := by
  refine ⟨mmX12_game, [some (.ref 137), some (.int (Int32.ofInt a1)), some (.int (Int32.ofInt a2)), some (.int (Int32.ofInt a3)), none, none, none], rfl, rfl, ?_⟩
  have bz0 := mz_rd hI bd_137_30
  have hpv := p1
  have hE : zf_E (zF_X12_game a1 a2 a3 g) (zF_X12_game a1 a2 a3 g) := zf_rf
  refine mm_g 2 (pc1 := 2) (lo1 := [some (.ref 137), some (.int (Int32.ofInt a1)), some (.int (Int32.ofInt a2)), some (.int (Int32.ofInt a3)), none, none, none]) (st1 := [.int (Int32.ofInt 0), .ref 137]) (H1 := mz_mk g x) rfl ?_
  refine mz_pI rfl fd_12_154 (sc_137 _) hI bd_137_2 (by omega) (by omega) (fun g1 hIg1 hug1 => ?_)
  replace hE := zf_tr hE (zf_lg hug1)
  refine mm_g 2 (pc1 := 7) (lo1 := [some (.ref 137), some (.int (Int32.ofInt a1)), some (.int (Int32.ofInt a2)), some (.int (Int32.ofInt a3)), none, none, none]) (st1 := [.int (Int32.ofInt a1), .ref 137]) (H1 := mz_mk g1 x) rfl ?_
  refine mz_cv rfl mt_12_391 (by decide) (sc_137 _) rfl (Nat.le_of_ble_eq_true rfl) (by omega) (f_X12_isTrunk (by omega) hx hIg1 l_a1 u_a1 (fun v2 l_v2 u_v2 hp3 hp4 hc5 => ⟨_, rfl, ?_⟩))
  show mm_W d mmX12_game 10 [some (.ref 137), some (.int (Int32.ofInt a1)), some (.int (Int32.ofInt a2)), some (.int (Int32.ofInt a3)), none, none, none] [.int (Int32.ofInt v2)] (mz_mk g1 x) Q
  replace hE := zf_t1 hE hc5
  refine mz_if_eq (tgt := 31) rfl rfl (mz_rg l_v2 u_v2) (fun c10_5 => ?_) (fun c10_5 => ?_)
  · skip
    replace hE := zf_ip hE c10_5
    refine mm_g 2 (pc1 := 33) (lo1 := [some (.ref 137), some (.int (Int32.ofInt a1)), some (.int (Int32.ofInt a2)), some (.int (Int32.ofInt a3)), none, none, none]) (st1 := [.int (Int32.ofInt 1), .ref 137]) (H1 := mz_mk g1 x) rfl ?_
    refine mz_cv rfl mt_12_294 (by decide) (sc_137 _) rfl (Nat.le_of_ble_eq_true rfl) (by omega) (f_X12_fail (by omega) hx hIg1 (by decide) (by decide) (fun v6 g7 hIg7 hfg7 l_v6 u_v6 hc8 => ⟨_, rfl, ?_⟩))
    show mm_W d mmX12_game 36 [some (.ref 137), some (.int (Int32.ofInt a1)), some (.int (Int32.ofInt a2)), some (.int (Int32.ofInt a3)), none, none, none] [.int (Int32.ofInt v6)] (mz_mk g7 x) Q
    replace hE := zf_t2 hE hc8
    exact mm_rt rfl rfl (hQ _ _ hIg7 (fun k j hk => ((hfg7 k j (fun h => hk (Or.inl h))).trans (hug1.2 k j (fun h => hk (Or.inl h))))) (by omega) (by omega) (by have h9 := (show g7 137 30 = (g 137 30) from ((hfg7 137 30 (fun h => (absurd (show (137 = 137 ∧ 30 = 2) from h) (by decide)))).trans ((hug1.2 137 30 (fun h => absurd h.2 (by decide))).trans rfl))); omega) hE)
  · skip
    replace hE := zf_in hE c10_5
    refine mm_g 2 (pc1 := 15) (lo1 := [some (.ref 137), some (.int (Int32.ofInt a1)), some (.int (Int32.ofInt a2)), some (.int (Int32.ofInt a3)), none, none, none]) (st1 := [.int (Int32.ofInt a2), .ref 137]) (H1 := mz_mk g1 x) rfl ?_
    refine mz_cv rfl mt_12_391 (by decide) (sc_137 _) rfl (Nat.le_of_ble_eq_true rfl) (by omega) (f_X12_isTrunk (by omega) hx hIg1 l_a2 u_a2 (fun v9 l_v9 u_v9 hp10 hp11 hc12 => ⟨_, rfl, ?_⟩))
    show mm_W d mmX12_game 18 [some (.ref 137), some (.int (Int32.ofInt a1)), some (.int (Int32.ofInt a2)), some (.int (Int32.ofInt a3)), none, none, none] [.int (Int32.ofInt v9)] (mz_mk g1 x) Q
    replace hE := zf_t1 hE hc12
    refine mz_if_eq (tgt := 31) rfl rfl (mz_rg l_v9 u_v9) (fun c18_12 => ?_) (fun c18_12 => ?_)
    · skip
      replace hE := zf_ip hE c18_12
      refine mm_g 2 (pc1 := 33) (lo1 := [some (.ref 137), some (.int (Int32.ofInt a1)), some (.int (Int32.ofInt a2)), some (.int (Int32.ofInt a3)), none, none, none]) (st1 := [.int (Int32.ofInt 1), .ref 137]) (H1 := mz_mk g1 x) rfl ?_
      refine mz_cv rfl mt_12_294 (by decide) (sc_137 _) rfl (Nat.le_of_ble_eq_true rfl) (by omega) (f_X12_fail (by omega) hx hIg1 (by decide) (by decide) (fun v13 g14 hIg14 hfg14 l_v13 u_v13 hc15 => ⟨_, rfl, ?_⟩))
      show mm_W d mmX12_game 36 [some (.ref 137), some (.int (Int32.ofInt a1)), some (.int (Int32.ofInt a2)), some (.int (Int32.ofInt a3)), none, none, none] [.int (Int32.ofInt v13)] (mz_mk g14 x) Q
      replace hE := zf_t2 hE hc15
      exact mm_rt rfl rfl (hQ _ _ hIg14 (fun k j hk => ((hfg14 k j (fun h => hk (Or.inl h))).trans (hug1.2 k j (fun h => hk (Or.inl h))))) (by omega) (by omega) (by have h9 := (show g14 137 30 = (g 137 30) from ((hfg14 137 30 (fun h => (absurd (show (137 = 137 ∧ 30 = 2) from h) (by decide)))).trans ((hug1.2 137 30 (fun h => absurd h.2 (by decide))).trans rfl))); omega) hE)
    · skip
      replace hE := zf_in hE c18_12
      refine mm_g 1 (pc1 := 22) (lo1 := [some (.ref 137), some (.int (Int32.ofInt a1)), some (.int (Int32.ofInt a2)), some (.int (Int32.ofInt a3)), none, none, none]) (st1 := [.int (Int32.ofInt a3)]) (H1 := mz_mk g1 x) rfl ?_
      refine mz_i2l rfl (mz_rg l_a3 u_a3) ?_
      refine mz_lcst (c := 0) rfl rfl ?_
      refine mz_lcst (c := 1) rfl rfl ?_
      refine mz_cs rfl mt_12_157 (by decide) rfl (Nat.le_of_ble_eq_true rfl) (by omega) (f_X12_isIn (by omega) hx hIg1 (by omega) (by omega) (by omega) (by omega) (by omega) (by omega) (fun v16 l_v16 u_v16 hp17 hc18 => ⟨_, rfl, ?_⟩))
      show mm_W d mmX12_game 28 [some (.ref 137), some (.int (Int32.ofInt a1)), some (.int (Int32.ofInt a2)), some (.int (Int32.ofInt a3)), none, none, none] [.int (Int32.ofInt v16)] (mz_mk g1 x) Q
      replace hE := zf_t1 hE hc18
      refine mz_if_ne (tgt := 37) rfl rfl (mz_rg l_v16 u_v16) (fun c28_18 => ?_) (fun c28_18 => ?_)
      · skip
        replace hE := zf_in hE c28_18
        refine mm_g 2 (pc1 := 39) (lo1 := [some (.ref 137), some (.int (Int32.ofInt a1)), some (.int (Int32.ofInt a2)), some (.int (Int32.ofInt a3)), none, none, none]) (st1 := [.int (Int32.ofInt a2), .int (Int32.ofInt a1)]) (H1 := mz_mk g1 x) rfl ?_
        refine mz_ic_ne (tgt := 48) rfl rfl (mz_rg l_a1 u_a1) (mz_rg l_a2 u_a2) (fun c39_18 => ?_) (fun c39_18 => ?_)
        · skip
          replace hE := zf_in hE c39_18
          refine mm_g 3 (pc1 := 51) (lo1 := [some (.ref 137), some (.int (Int32.ofInt a1)), some (.int (Int32.ofInt a2)), some (.int (Int32.ofInt a3)), none, none, none]) (st1 := [.int (Int32.ofInt a2), .int (Int32.ofInt a1), .ref 137]) (H1 := mz_mk g1 x) rfl ?_
          refine mz_cv rfl mt_12_491 (by decide) (sc_137 _) rfl (Nat.le_of_ble_eq_true rfl) (by omega) (f_X12_tellGains (by omega) hx hIg1 (by omega) (by omega) (by omega) (by omega) (mz_pv_fr hpv (fun _j => ((hug1.2 149 _j (fun h => absurd h.1 (by decide))).trans rfl)) ((hug1.2 140 3 (fun h => absurd h.1 (by decide))).trans rfl)) (by have h9 := (show g1 137 30 = (g 137 30) from ((hug1.2 137 30 (fun h => absurd h.2 (by decide))).trans rfl)); omega) (fun g19 hIg19 hfg19 hp20 hc21 => ⟨_, rfl, ?_⟩))
          show mm_W d mmX12_game 54 [some (.ref 137), some (.int (Int32.ofInt a1)), some (.int (Int32.ofInt a2)), some (.int (Int32.ofInt a3)), none, none, none] [] (mz_mk g19 x) Q
          replace hE := zf_t1 hE hc21
          refine mm_g 6 (pc1 := 63) (lo1 := [some (.ref 137), some (.int (Int32.ofInt a1)), some (.int (Int32.ofInt a2)), some (.int (Int32.ofInt a3)), some (.int (Int32.ofInt 0)), some (.int (Int32.ofInt (-1))), some (.int (Int32.ofInt 0))]) (st1 := []) (H1 := mz_mk g19 x) rfl ?_
          have L28 : ∀ n27 : Nat, ∀ (v22 : Int) (v23 : Int) (v24 : Int), (4 - v24).toNat = n27 → (-2147483648) ≤ v22 → v22 ≤ 2147483647 → (-1) ≤ v23 → v23 ≤ 15 → 0 ≤ v24 → v24 ≤ 4 → (∃ fk : Nat, (4 - v24).toNat < fk ∧ zf_E (zF_X12_game a1 a2 a3 g) (zL_X12_game_63 a1 a2 a3 g19 fk v22 v23 v24)) → mm_W d mmX12_game 63 [some (.ref 137), some (.int (Int32.ofInt a1)), some (.int (Int32.ofInt a2)), some (.int (Int32.ofInt a3)), some (.int (Int32.ofInt v22)), some (.int (Int32.ofInt v23)), some (.int (Int32.ofInt v24))] [] (mz_mk g19 x) Q := by
            intro n27
            induction n27 using Nat.strongRecOn with
            | ind n27 ih26 =>
            intro v22 v23 v24 hmn27 l_v22 u_v22 l_v23 u_v23 l_v24 u_v24 hF
            obtain ⟨fk, fl, hE⟩ := hF
            obtain ⟨fj29, rfl⟩ : ∃ fj, fk = fj + 1 := ⟨fk - 1, by omega⟩
            have fn30 : n27 ≤ fj29 := by omega
            replace hE := zf_tr hE zL_X12_game_63_s
            refine mm_g 2 (pc1 := 66) (lo1 := [some (.ref 137), some (.int (Int32.ofInt a1)), some (.int (Int32.ofInt a2)), some (.int (Int32.ofInt a3)), some (.int (Int32.ofInt v22)), some (.int (Int32.ofInt v23)), some (.int (Int32.ofInt v24))]) (st1 := [.int (Int32.ofInt 4), .int (Int32.ofInt v24)]) (H1 := mz_mk g19 x) rfl ?_
            refine mz_ic_ge (tgt := 156) rfl rfl (mz_rg l_v24 u_v24) ⟨by decide, by decide⟩ (fun c66_30 => ?_) (fun c66_30 => ?_)
            · skip
              replace hE := zf_nl hE c66_30
              refine mm_g 1 (pc1 := 157) (lo1 := [some (.ref 137), some (.int (Int32.ofInt a1)), some (.int (Int32.ofInt a2)), some (.int (Int32.ofInt a3)), some (.int (Int32.ofInt v22)), some (.int (Int32.ofInt v23)), some (.int (Int32.ofInt v24))]) (st1 := [.int (Int32.ofInt a3)]) (H1 := mz_mk g19 x) rfl ?_
              refine mz_if_ne (tgt := 165) rfl rfl (mz_rg l_a3 u_a3) (fun c157_30 => ?_) (fun c157_30 => ?_)
              · skip
                replace hE := zf_in hE c157_30
                refine mm_g 1 (pc1 := 167) (lo1 := [some (.ref 137), some (.int (Int32.ofInt a1)), some (.int (Int32.ofInt a2)), some (.int (Int32.ofInt a3)), some (.int (Int32.ofInt v22)), some (.int (Int32.ofInt v23)), some (.int (Int32.ofInt v24))]) (st1 := [.int (Int32.ofInt v23)]) (H1 := mz_mk g19 x) rfl ?_
                exact mm_rt rfl rfl (hQ _ _ hIg19 (fun k j hk => ((hfg19 k j (fun h => hk (Or.elim h (fun h => (Or.inr (Or.inl h))) (fun h => (Or.elim h (fun h => (Or.inr (Or.inr (Or.inl h)))) (fun h => (Or.elim h (fun h => (Or.inr (Or.inr (Or.inr (Or.inl h))))) (fun h => (Or.elim h (fun h => (Or.inr (Or.inr (Or.inr (Or.inr (Or.inl h)))))) (fun h => (Or.elim h (fun h => (Or.inr (Or.inr (Or.inr (Or.inr (Or.inr (Or.inl h))))))) (fun h => (Or.elim h (fun h => (Or.inr (Or.inr (Or.inr (Or.inr (Or.inr (Or.inr (Or.inl h)))))))) (fun h => (Or.elim h (fun h => (Or.inr (Or.inr (Or.inr (Or.inr (Or.inr (Or.inr (Or.inr (Or.inl h))))))))) (fun h => (Or.elim h (fun h => (Or.inr (Or.inr (Or.inr (Or.inr (Or.inr (Or.inr (Or.inr (Or.inr (Or.inl h)))))))))) (fun h => (Or.elim h (fun h => (Or.inr (Or.inr (Or.inr (Or.inr (Or.inr (Or.inr (Or.inr (Or.inr (Or.inr (Or.inl h))))))))))) (fun h => (Or.elim h (fun h => (Or.inr (Or.inr (Or.inr (Or.inr (Or.inr (Or.inr (Or.inr (Or.inr (Or.inr (Or.inr (Or.inl h)))))))))))) (fun h => (Or.elim h (fun h => (Or.inr (Or.inr (Or.inr (Or.inr (Or.inr (Or.inr (Or.inr (Or.inr (Or.inr (Or.inr (Or.inr (Or.inl h))))))))))))) (fun h => (Or.elim h (fun h => (Or.inr (Or.inr (Or.inr (Or.inr (Or.inr (Or.inr (Or.inr (Or.inr (Or.inr (Or.inr (Or.inr (Or.inr (Or.inl h)))))))))))))) (fun h => (Or.elim h (fun h => (Or.inr (Or.inr (Or.inr (Or.inr (Or.inr (Or.inr (Or.inr (Or.inr (Or.inr (Or.inr (Or.inr (Or.inr (Or.inr (Or.inl h))))))))))))))) (fun h => (Or.elim h (fun h => (Or.inr (Or.inr (Or.inr (Or.inr (Or.inr (Or.inr (Or.inr (Or.inr (Or.inr (Or.inr (Or.inr (Or.inr (Or.inr (Or.inr (Or.inl h)))))))))))))))) (fun h => (Or.inr (Or.inr (Or.inr (Or.inr (Or.inr (Or.inr (Or.inr (Or.inr (Or.inr (Or.inr (Or.inr (Or.inr (Or.inr (Or.inr (Or.inr h))))))))))))))))))))))))))))))))))))))))))))).trans (hug1.2 k j (fun h => hk (Or.inl h))))) (by omega) (by omega) (by omega) hE)
              · skip
                replace hE := zf_ip hE c157_30
                refine mm_g 1 (pc1 := 162) (lo1 := [some (.ref 137), some (.int (Int32.ofInt a1)), some (.int (Int32.ofInt a2)), some (.int (Int32.ofInt a3)), some (.int (Int32.ofInt v22)), some (.int (Int32.ofInt v23)), some (.int (Int32.ofInt v24))]) (st1 := [.int (Int32.ofInt v22)]) (H1 := mz_mk g19 x) rfl ?_
                refine mz_gt (tgt := 167) rfl rfl ?_
                exact mm_rt rfl rfl (hQ _ _ hIg19 (fun k j hk => ((hfg19 k j (fun h => hk (Or.elim h (fun h => (Or.inr (Or.inl h))) (fun h => (Or.elim h (fun h => (Or.inr (Or.inr (Or.inl h)))) (fun h => (Or.elim h (fun h => (Or.inr (Or.inr (Or.inr (Or.inl h))))) (fun h => (Or.elim h (fun h => (Or.inr (Or.inr (Or.inr (Or.inr (Or.inl h)))))) (fun h => (Or.elim h (fun h => (Or.inr (Or.inr (Or.inr (Or.inr (Or.inr (Or.inl h))))))) (fun h => (Or.elim h (fun h => (Or.inr (Or.inr (Or.inr (Or.inr (Or.inr (Or.inr (Or.inl h)))))))) (fun h => (Or.elim h (fun h => (Or.inr (Or.inr (Or.inr (Or.inr (Or.inr (Or.inr (Or.inr (Or.inl h))))))))) (fun h => (Or.elim h (fun h => (Or.inr (Or.inr (Or.inr (Or.inr (Or.inr (Or.inr (Or.inr (Or.inr (Or.inl h)))))))))) (fun h => (Or.elim h (fun h => (Or.inr (Or.inr (Or.inr (Or.inr (Or.inr (Or.inr (Or.inr (Or.inr (Or.inr (Or.inl h))))))))))) (fun h => (Or.elim h (fun h => (Or.inr (Or.inr (Or.inr (Or.inr (Or.inr (Or.inr (Or.inr (Or.inr (Or.inr (Or.inr (Or.inl h)))))))))))) (fun h => (Or.elim h (fun h => (Or.inr (Or.inr (Or.inr (Or.inr (Or.inr (Or.inr (Or.inr (Or.inr (Or.inr (Or.inr (Or.inr (Or.inl h))))))))))))) (fun h => (Or.elim h (fun h => (Or.inr (Or.inr (Or.inr (Or.inr (Or.inr (Or.inr (Or.inr (Or.inr (Or.inr (Or.inr (Or.inr (Or.inr (Or.inl h)))))))))))))) (fun h => (Or.elim h (fun h => (Or.inr (Or.inr (Or.inr (Or.inr (Or.inr (Or.inr (Or.inr (Or.inr (Or.inr (Or.inr (Or.inr (Or.inr (Or.inr (Or.inl h))))))))))))))) (fun h => (Or.elim h (fun h => (Or.inr (Or.inr (Or.inr (Or.inr (Or.inr (Or.inr (Or.inr (Or.inr (Or.inr (Or.inr (Or.inr (Or.inr (Or.inr (Or.inr (Or.inl h)))))))))))))))) (fun h => (Or.inr (Or.inr (Or.inr (Or.inr (Or.inr (Or.inr (Or.inr (Or.inr (Or.inr (Or.inr (Or.inr (Or.inr (Or.inr (Or.inr (Or.inr h))))))))))))))))))))))))))))))))))))))))))))).trans (hug1.2 k j (fun h => hk (Or.inl h))))) (by omega) (by omega) (by omega) hE)
            · skip
              replace hE := zf_ip hE c66_30
              refine mm_g 1 (pc1 := 70) (lo1 := [some (.ref 137), some (.int (Int32.ofInt a1)), some (.int (Int32.ofInt a2)), some (.int (Int32.ofInt a3)), some (.int (Int32.ofInt v22)), some (.int (Int32.ofInt v23)), some (.int (Int32.ofInt v24))]) (st1 := [.ref 137]) (H1 := mz_mk g19 x) rfl ?_
              refine mz_fgR (v := 172) rfl fd_12_133 (by decide) (sc_137 _) (rf_137_51 _ _ _) ?_
              refine mm_g 3 (pc1 := 77) (lo1 := [some (.ref 137), some (.int (Int32.ofInt a1)), some (.int (Int32.ofInt a2)), some (.int (Int32.ofInt a3)), some (.int (Int32.ofInt v22)), some (.int (Int32.ofInt v23)), some (.int (Int32.ofInt v24))]) (st1 := [.int (Int32.ofInt 2), .int (Int32.ofInt v24), .int (Int32.ofInt 2), .ref 172]) (H1 := mz_mk g19 x) rfl ?_
              refine mz_ixor rfl (fun v31 e_v31 hwv31 => ?_)
              have b_v31 : 0 ≤ v31 ∧ v31 ≤ 3 := by rw [e_v31]; exact mz_xor_lt (n := 2) (by decide) (by omega) (by omega) (by omega) (by omega)
              have l_v31 := b_v31.1
              have u_v31 := b_v31.2
              replace hE := zf_tr hE (zf_le e_v31.symm)
              refine mz_imul rfl ?_
              refine mz_aI rfl (sh_172 _) (by omega) (by omega) (by decide) hIg19 (ba_172 _) (fun v32 e_v32 l_v32 u_v32 => ?_)
              replace hE := zf_tr hE (zf_le e_v32)
              refine mm_g 1 (pc1 := 81) (lo1 := [some (.ref 137), some (.int (Int32.ofInt a1)), some (.int (Int32.ofInt a2)), some (.int (Int32.ofInt a3)), some (.int (Int32.ofInt v22)), some (.int (Int32.ofInt v23)), some (.int (Int32.ofInt v24))]) (st1 := [.ref 137, .int (Int32.ofInt v32)]) (H1 := mz_mk g19 x) rfl ?_
              refine mz_fgR (v := 172) rfl fd_12_133 (by decide) (sc_137 _) (rf_137_51 _ _ _) ?_
              refine mm_g 2 (pc1 := 87) (lo1 := [some (.ref 137), some (.int (Int32.ofInt a1)), some (.int (Int32.ofInt a2)), some (.int (Int32.ofInt a3)), some (.int (Int32.ofInt v22)), some (.int (Int32.ofInt v23)), some (.int (Int32.ofInt v24))]) (st1 := [.int (Int32.ofInt v24), .int (Int32.ofInt 2), .ref 172, .int (Int32.ofInt v32)]) (H1 := mz_mk g19 x) rfl ?_
              refine mz_imul rfl ?_
              refine mz_aI rfl (sh_172 _) (by omega) (by omega) (by decide) hIg19 (ba_172 _) (fun v33 e_v33 l_v33 u_v33 => ?_)
              replace hE := zf_tr hE (zf_le e_v33)
              refine mz_ic_gt (tgt := 150) rfl rfl (mz_rg l_v32 u_v32) (mz_rg l_v33 u_v33) (fun c89_33 => ?_) (fun c89_33 => ?_)
              · skip
                replace hE := zf_ip hE c89_33
                refine mz_iincR (v := v24) (lo2 := [some (.ref 137), some (.int (Int32.ofInt a1)), some (.int (Int32.ofInt a2)), some (.int (Int32.ofInt a3)), some (.int (Int32.ofInt v22)), some (.int (Int32.ofInt v23)), some (.int (Int32.ofInt (v24 + 1)))]) rfl rfl rfl (Nat.le_of_ble_eq_true rfl) rfl ?_
                refine mz_gt (tgt := 63) rfl rfl ?_
                exact ih26 ((4 - (v24 + 1)).toNat) (by omega) v22 v23 (v24 + 1) rfl (by omega) (by omega) (by omega) (by omega) (by omega) (by omega) ⟨fj29, Nat.lt_of_lt_of_le (show ((4 - (v24 + 1)).toNat) < n27 from (by omega)) fn30, hE⟩
              · skip
                replace hE := zf_nl hE c89_33
                refine mm_g 1 (pc1 := 93) (lo1 := [some (.ref 137), some (.int (Int32.ofInt a1)), some (.int (Int32.ofInt a2)), some (.int (Int32.ofInt a3)), some (.int (Int32.ofInt v22)), some (.int (Int32.ofInt v23)), some (.int (Int32.ofInt v24))]) (st1 := [.ref 137]) (H1 := mz_mk g19 x) rfl ?_
                refine mz_fgR (v := 172) rfl fd_12_133 (by decide) (sc_137 _) (rf_137_51 _ _ _) ?_
                refine mm_g 3 (pc1 := 100) (lo1 := [some (.ref 137), some (.int (Int32.ofInt a1)), some (.int (Int32.ofInt a2)), some (.int (Int32.ofInt a3)), some (.int (Int32.ofInt v22)), some (.int (Int32.ofInt v23)), some (.int (Int32.ofInt v24))]) (st1 := [.int (Int32.ofInt 1), .int (Int32.ofInt v24), .int (Int32.ofInt 2), .ref 172]) (H1 := mz_mk g19 x) rfl ?_
                refine mz_ixor rfl (fun v34 e_v34 hwv34 => ?_)
                have b_v34 : 0 ≤ v34 ∧ v34 ≤ 3 := by rw [e_v34]; exact mz_xor_lt (n := 2) (by decide) (by omega) (by omega) (by omega) (by omega)
                have l_v34 := b_v34.1
                have u_v34 := b_v34.2
                replace hE := zf_tr hE (zf_le e_v34.symm)
                refine mz_imul rfl ?_
                refine mm_g 1 (pc1 := 103) (lo1 := [some (.ref 137), some (.int (Int32.ofInt a1)), some (.int (Int32.ofInt a2)), some (.int (Int32.ofInt a3)), some (.int (Int32.ofInt v22)), some (.int (Int32.ofInt v23)), some (.int (Int32.ofInt v24))]) (st1 := [.int (Int32.ofInt 1), .int (Int32.ofInt (2 * v34)), .ref 172]) (H1 := mz_mk g19 x) rfl ?_
                refine mz_iadd rfl ?_
                refine mz_aI rfl (sh_172 _) (by omega) (by omega) (by decide) hIg19 (ba_172 _) (fun v35 e_v35 l_v35 u_v35 => ?_)
                replace hE := zf_tr hE (zf_le e_v35)
                refine mm_g 1 (pc1 := 106) (lo1 := [some (.ref 137), some (.int (Int32.ofInt a1)), some (.int (Int32.ofInt a2)), some (.int (Int32.ofInt a3)), some (.int (Int32.ofInt v22)), some (.int (Int32.ofInt v23)), some (.int (Int32.ofInt v24))]) (st1 := [.ref 137, .int (Int32.ofInt v35)]) (H1 := mz_mk g19 x) rfl ?_
                refine mz_fgR (v := 172) rfl fd_12_133 (by decide) (sc_137 _) (rf_137_51 _ _ _) ?_
                refine mm_g 2 (pc1 := 112) (lo1 := [some (.ref 137), some (.int (Int32.ofInt a1)), some (.int (Int32.ofInt a2)), some (.int (Int32.ofInt a3)), some (.int (Int32.ofInt v22)), some (.int (Int32.ofInt v23)), some (.int (Int32.ofInt v24))]) (st1 := [.int (Int32.ofInt v24), .int (Int32.ofInt 2), .ref 172, .int (Int32.ofInt v35)]) (H1 := mz_mk g19 x) rfl ?_
                refine mz_imul rfl ?_
                refine mm_g 1 (pc1 := 114) (lo1 := [some (.ref 137), some (.int (Int32.ofInt a1)), some (.int (Int32.ofInt a2)), some (.int (Int32.ofInt a3)), some (.int (Int32.ofInt v22)), some (.int (Int32.ofInt v23)), some (.int (Int32.ofInt v24))]) (st1 := [.int (Int32.ofInt 1), .int (Int32.ofInt (2 * v24)), .ref 172, .int (Int32.ofInt v35)]) (H1 := mz_mk g19 x) rfl ?_
                refine mz_iadd rfl ?_
                refine mz_aI rfl (sh_172 _) (by omega) (by omega) (by decide) hIg19 (ba_172 _) (fun v36 e_v36 l_v36 u_v36 => ?_)
                replace hE := zf_tr hE (zf_le e_v36)
                refine mz_ic_le (tgt := 122) rfl rfl (mz_rg l_v35 u_v35) (mz_rg l_v36 u_v36) (fun c116_36 => ?_) (fun c116_36 => ?_)
                · skip
                  replace hE := zf_nl hE c116_36
                  refine mz_iincW (v := v22) (lo2 := fun v37 => [some (.ref 137), some (.int (Int32.ofInt a1)), some (.int (Int32.ofInt a2)), some (.int (Int32.ofInt a3)), some (.int (Int32.ofInt v37)), some (.int (Int32.ofInt v23)), some (.int (Int32.ofInt v24))]) rfl rfl rfl (Nat.le_of_ble_eq_true rfl) (fun _ => rfl) (fun v37 e_v37 hwv37 => ?_)
                  have l_v37 := hwv37.1
                  have u_v37 := hwv37.2
                  replace hE := zf_tr hE (zf_le e_v37.symm)
                  refine mm_g 2 (pc1 := 128) (lo1 := [some (.ref 137), some (.int (Int32.ofInt a1)), some (.int (Int32.ofInt a2)), some (.int (Int32.ofInt a3)), some (.int (Int32.ofInt v37)), some (.int (Int32.ofInt v23)), some (.int (Int32.ofInt v24))]) (st1 := [.int (Int32.ofInt (-1)), .int (Int32.ofInt v23)]) (H1 := mz_mk g19 x) rfl ?_
                  refine mz_ic_ne (tgt := 146) rfl rfl (mz_rg l_v23 u_v23) ⟨by decide, by decide⟩ (fun c128_37 => ?_) (fun c128_37 => ?_)
                  · skip
                    replace hE := zf_in hE c128_37
                    refine mm_g 2 (pc1 := 150) (lo1 := [some (.ref 137), some (.int (Int32.ofInt a1)), some (.int (Int32.ofInt a2)), some (.int (Int32.ofInt a3)), some (.int (Int32.ofInt v37)), some (.int (Int32.ofInt v23)), some (.int (Int32.ofInt v24))]) (st1 := []) (H1 := mz_mk g19 x) rfl ?_
                    refine mz_iincR (v := v24) (lo2 := [some (.ref 137), some (.int (Int32.ofInt a1)), some (.int (Int32.ofInt a2)), some (.int (Int32.ofInt a3)), some (.int (Int32.ofInt v37)), some (.int (Int32.ofInt v23)), some (.int (Int32.ofInt (v24 + 1)))]) rfl rfl rfl (Nat.le_of_ble_eq_true rfl) rfl ?_
                    refine mz_gt (tgt := 63) rfl rfl ?_
                    exact ih26 ((4 - (v24 + 1)).toNat) (by omega) v37 v23 (v24 + 1) rfl (by omega) (by omega) (by omega) (by omega) (by omega) (by omega) ⟨fj29, Nat.lt_of_lt_of_le (show ((4 - (v24 + 1)).toNat) < n27 from (by omega)) fn30, hE⟩
                  · skip
                    replace hE := zf_ip hE c128_37
                    refine mz_bip rfl bip_10 ?_
                    refine mm_g 2 (pc1 := 136) (lo1 := [some (.ref 137), some (.int (Int32.ofInt a1)), some (.int (Int32.ofInt a2)), some (.int (Int32.ofInt a3)), some (.int (Int32.ofInt v37)), some (.int (Int32.ofInt v23)), some (.int (Int32.ofInt v24))]) (st1 := [.int (Int32.ofInt 2), .int (Int32.ofInt v24), .int (Int32.ofInt 10)]) (H1 := mz_mk g19 x) rfl ?_
                    refine mz_idivp rfl (mz_rg l_v24 u_v24) ⟨by decide, by decide⟩ (by omega) (by omega) (fun v38 e_v38 => ?_)
                    have l_v38 : 0 ≤ v38 := by omega
                    have u_v38 : v38 ≤ 1 := by omega
                    replace hE := zf_tr hE (zf_le e_v38.symm)
                    refine mz_imul rfl ?_
                    refine mm_g 2 (pc1 := 141) (lo1 := [some (.ref 137), some (.int (Int32.ofInt a1)), some (.int (Int32.ofInt a2)), some (.int (Int32.ofInt a3)), some (.int (Int32.ofInt v37)), some (.int (Int32.ofInt v23)), some (.int (Int32.ofInt v24))]) (st1 := [.int (Int32.ofInt 2), .int (Int32.ofInt v24), .int (Int32.ofInt (10 * v38))]) (H1 := mz_mk g19 x) rfl ?_
                    refine mz_iremq rfl (mz_rg l_v24 u_v24) ⟨by decide, by decide⟩ (by omega) (by omega) (fun v39 e_v39 l_v39 w_v39 z_v39 => ?_)
                    have u_v39 : v39 ≤ 1 := by omega
                    replace hE := zf_tr hE (zf_le e_v39.symm)
                    refine mz_iadd rfl ?_
                    refine mz_gt (tgt := 148) rfl rfl ?_
                    refine mm_g 1 (pc1 := 150) (lo1 := [some (.ref 137), some (.int (Int32.ofInt a1)), some (.int (Int32.ofInt a2)), some (.int (Int32.ofInt a3)), some (.int (Int32.ofInt v37)), some (.int (Int32.ofInt ((10 * v38) + v39))), some (.int (Int32.ofInt v24))]) (st1 := []) (H1 := mz_mk g19 x) rfl ?_
                    refine mz_iincR (v := v24) (lo2 := [some (.ref 137), some (.int (Int32.ofInt a1)), some (.int (Int32.ofInt a2)), some (.int (Int32.ofInt a3)), some (.int (Int32.ofInt v37)), some (.int (Int32.ofInt ((10 * v38) + v39))), some (.int (Int32.ofInt (v24 + 1)))]) rfl rfl rfl (Nat.le_of_ble_eq_true rfl) rfl ?_
                    refine mz_gt (tgt := 63) rfl rfl ?_
                    exact ih26 ((4 - (v24 + 1)).toNat) (by omega) v37 ((10 * v38) + v39) (v24 + 1) rfl (by omega) (by omega) (by omega) (by omega) (by omega) (by omega) ⟨fj29, Nat.lt_of_lt_of_le (show ((4 - (v24 + 1)).toNat) < n27 from (by omega)) fn30, hE⟩
                · skip
                  replace hE := zf_ip hE c116_36
                  refine mz_gt (tgt := 150) rfl rfl ?_
                  refine mz_iincR (v := v24) (lo2 := [some (.ref 137), some (.int (Int32.ofInt a1)), some (.int (Int32.ofInt a2)), some (.int (Int32.ofInt a3)), some (.int (Int32.ofInt v22)), some (.int (Int32.ofInt v23)), some (.int (Int32.ofInt (v24 + 1)))]) rfl rfl rfl (Nat.le_of_ble_eq_true rfl) rfl ?_
                  refine mz_gt (tgt := 63) rfl rfl ?_
                  exact ih26 ((4 - (v24 + 1)).toNat) (by omega) v22 v23 (v24 + 1) rfl (by omega) (by omega) (by omega) (by omega) (by omega) (by omega) ⟨fj29, Nat.lt_of_lt_of_le (show ((4 - (v24 + 1)).toNat) < n27 from (by omega)) fn30, hE⟩
          exact L28 _ 0 (-1) 0 rfl (by decide) (by decide) (by decide) (by decide) (by decide) (by decide) ⟨3000000000, by omega, hE⟩
        · skip
          replace hE := zf_ip hE c39_18
          refine mm_g 2 (pc1 := 44) (lo1 := [some (.ref 137), some (.int (Int32.ofInt a1)), some (.int (Int32.ofInt a2)), some (.int (Int32.ofInt a3)), none, none, none]) (st1 := [.int (Int32.ofInt 2), .ref 137]) (H1 := mz_mk g1 x) rfl ?_
          refine mz_cv rfl mt_12_294 (by decide) (sc_137 _) rfl (Nat.le_of_ble_eq_true rfl) (by omega) (f_X12_fail (by omega) hx hIg1 (by decide) (by decide) (fun v40 g41 hIg41 hfg41 l_v40 u_v40 hc42 => ⟨_, rfl, ?_⟩))
          show mm_W d mmX12_game 47 [some (.ref 137), some (.int (Int32.ofInt a1)), some (.int (Int32.ofInt a2)), some (.int (Int32.ofInt a3)), none, none, none] [.int (Int32.ofInt v40)] (mz_mk g41 x) Q
          replace hE := zf_t2 hE hc42
          exact mm_rt rfl rfl (hQ _ _ hIg41 (fun k j hk => ((hfg41 k j (fun h => hk (Or.inl h))).trans (hug1.2 k j (fun h => hk (Or.inl h))))) (by omega) (by omega) (by have h9 := (show g41 137 30 = (g 137 30) from ((hfg41 137 30 (fun h => (absurd (show (137 = 137 ∧ 30 = 2) from h) (by decide)))).trans ((hug1.2 137 30 (fun h => absurd h.2 (by decide))).trans rfl))); omega) hE)
      · skip
        replace hE := zf_ip hE c28_18
        refine mm_g 2 (pc1 := 33) (lo1 := [some (.ref 137), some (.int (Int32.ofInt a1)), some (.int (Int32.ofInt a2)), some (.int (Int32.ofInt a3)), none, none, none]) (st1 := [.int (Int32.ofInt 1), .ref 137]) (H1 := mz_mk g1 x) rfl ?_
        refine mz_cv rfl mt_12_294 (by decide) (sc_137 _) rfl (Nat.le_of_ble_eq_true rfl) (by omega) (f_X12_fail (by omega) hx hIg1 (by decide) (by decide) (fun v43 g44 hIg44 hfg44 l_v43 u_v43 hc45 => ⟨_, rfl, ?_⟩))
        show mm_W d mmX12_game 36 [some (.ref 137), some (.int (Int32.ofInt a1)), some (.int (Int32.ofInt a2)), some (.int (Int32.ofInt a3)), none, none, none] [.int (Int32.ofInt v43)] (mz_mk g44 x) Q
        replace hE := zf_t2 hE hc45
        exact mm_rt rfl rfl (hQ _ _ hIg44 (fun k j hk => ((hfg44 k j (fun h => hk (Or.inl h))).trans (hug1.2 k j (fun h => hk (Or.inl h))))) (by omega) (by omega) (by have h9 := (show g44 137 30 = (g 137 30) from ((hfg44 137 30 (fun h => (absurd (show (137 = 137 ∧ 30 = 2) from h) (by decide)))).trans ((hug1.2 137 30 (fun h => absurd h.2 (by decide))).trans rfl))); omega) hE)
def fw_X12_drawOf (x : mm_X) (a1 : Int) : Nat → Nat → Prop := fun k j => (k = 137 ∧ j = 52)
theorem f_X12_drawOf {d : Nat} (hd : 1 ≤ d) {x : mm_X} (hx : mk_x x) {g : mz_G} (hI : mz_inv g) {a1 : Int} (l_a1 : 1 ≤ a1) (u_a1 : a1 ≤ 2147483647) {Q : (Option Value ⊕ Nat) → mm_H → Prop} (hQ : ∀ (r : Int) (g1 : mz_G), mz_inv g1 → mz_fr (fw_X12_drawOf x a1) g g1 → 0 ≤ r → r ≤ 32767 → (r < a1) → zf_E (zF_X12_drawOf a1 g) ((r, g1)) → Q (.inl (some (.int (Int32.ofInt r)))) (mz_mk g1 x)) : mm_C d 287 [.ref 137, .int (Int32.ofInt a1)] (mz_mk g x) Q := by
  refine ⟨mmX12_drawOf, [some (.ref 137), some (.int (Int32.ofInt a1))], rfl, rfl, ?_⟩
  have hE : zf_E (zF_X12_drawOf a1 g) (zF_X12_drawOf a1 g) := zf_rf
  refine mm_g 2 (pc1 := 2) (lo1 := [some (.ref 137), some (.int (Int32.ofInt a1))]) (st1 := [.ref 137, .ref 137]) (H1 := mz_mk g x) rfl ?_
  refine mz_gI rfl fd_12_495 (by decide) (sc_137 _) hI bd_137_52 (fun v1 e_v1 l_v1 u_v1 => ?_)
  replace hE := zf_tr hE (zf_le e_v1)
  refine mz_ldcwI (c := 1103515245) rfl rfl rfl ?_
  refine mz_imul_w rfl (fun v2 e_v2 hwv2 => ?_)
  have l_v2 := hwv2.1
  have u_v2 := hwv2.2
  replace hE := zf_tr hE (zf_le e_v2.symm)
  refine mz_sip rfl sip_12345 ?_
  refine mz_iadd_w rfl (fun v3 e_v3 hwv3 => ?_)
  have l_v3 := hwv3.1
  have u_v3 := hwv3.2
  replace hE := zf_tr hE (zf_le e_v3.symm)
  refine mz_pI rfl fd_12_495 (sc_137 _) hI bd_137_52 (by omega) (by omega) (fun g4 hIg4 hug4 => ?_)
  replace hE := zf_tr hE (zf_lg hug4)
  refine mm_g 1 (pc1 := 17) (lo1 := [some (.ref 137), some (.int (Int32.ofInt a1))]) (st1 := [.ref 137]) (H1 := mz_mk g4 x) rfl ?_
  refine mz_fgI (v := v3) rfl fd_12_495 (by decide) (sc_137 _) (show g4 137 52 = v3 from hug4.1) ?_
  replace hE := zf_tr hE (zf_le (show g4 137 52 = v3 from hug4.1))
  refine mz_bip rfl bip_16 ?_
  refine mz_ishr rfl (fun v5 e_v5 hwv5 => ?_)
  have l_v5 := hwv5.1
  have u_v5 := hwv5.2
  replace hE := zf_tr hE (zf_le e_v5.symm)
  refine mz_sip rfl sip_32767 ?_
  refine mz_iand rfl (fun v6 e_v6 hwv6 => ?_)
  have b_v6 : 0 ≤ v6 ∧ v6 ≤ 32767 := by rw [e_v6]; exact mz_and_r (by omega) (by omega) (mz_rg l_v5 u_v5)
  have l_v6 := b_v6.1
  have u_v6 := b_v6.2
  replace hE := zf_tr hE (zf_le e_v6.symm)
  refine mm_g 1 (pc1 := 28) (lo1 := [some (.ref 137), some (.int (Int32.ofInt a1))]) (st1 := [.int (Int32.ofInt a1), .int (Int32.ofInt v6)]) (H1 := mz_mk g4 x) rfl ?_
  refine mz_iremq rfl (mz_rg l_v6 u_v6) (mz_rg l_a1 u_a1) (by omega) (by omega) (fun v7 e_v7 l_v7 w_v7 z_v7 => ?_)
  have u_v7 : v7 ≤ 32767 := by omega
  replace hE := zf_tr hE (zf_le e_v7.symm)
  exact mm_rt rfl rfl (hQ _ _ hIg4 (fun k j hk => (hug4.2 k j (fun h => hk h))) (by omega) (by omega) (by omega) hE)
def fw_X12_something (x : mm_X) : Nat → Nat → Prop := fun k j => (k = 137 ∧ j = 52) ∨ k = 154 ∨ k = 152 ∨ k = 153 ∨ k = 155
theorem f_X12_something {d : Nat} (hd : 2 ≤ d) {x : mm_X} (hx : mk_x x) {g : mz_G} (hI : mz_inv g) (p1 : 0 < g 140 1 → 0 < g 140 0) {Q : (Option Value ⊕ Nat) → mm_H → Prop} (hQ : ∀ (g1 : mz_G), mz_inv g1 → mz_fr (fw_X12_something x) g g1 → zf_E (zF_X12_something g) (g1) → Q (.inl none) (mz_mk g1 x)) : mm_C d 288 [.ref 137] (mz_mk g x) Q := by
  refine ⟨mmX12_something, [some (.ref 137), none, none, none], rfl, rfl, ?_⟩
  have bz0 := mz_rd hI bt_140_0
  have bz1 := mz_rd hI bt_140_1
  have hE : zf_E (zF_X12_something g) (zF_X12_something g) := zf_rf
  refine mm_g 1 (pc1 := 1) (lo1 := [some (.ref 137), none, none, none]) (st1 := [.ref 137]) (H1 := mz_mk g x) rfl ?_
  refine mz_bip rfl bip_6 ?_
  refine mz_cv rfl mt_12_499 (by decide) (sc_137 _) rfl (Nat.le_of_ble_eq_true rfl) (by omega) (f_X12_drawOf (by omega) hx hI (by decide) (by decide) (fun v1 g2 hIg2 hfg2 l_v1 u_v1 hp3 hc4 => ⟨_, rfl, ?_⟩))
  show mm_W d mmX12_something 6 [some (.ref 137), none, none, none] [.int (Int32.ofInt v1)] (mz_mk g2 x) Q
  replace hE := zf_t2 hE hc4
  refine mm_g 3 (pc1 := 9) (lo1 := [some (.ref 137), some (.int (Int32.ofInt v1)), none, none]) (st1 := [.int (Int32.ofInt 2), .int (Int32.ofInt v1)]) (H1 := mz_mk g2 x) rfl ?_
  refine mz_ic_gt (tgt := 21) rfl rfl (mz_rg l_v1 u_v1) ⟨by decide, by decide⟩ (fun c9_4 => ?_) (fun c9_4 => ?_)
  · skip
    replace hE := zf_ip hE c9_4
    exact mm_rt rfl rfl (hQ _ hIg2 (fun k j hk => (hfg2 k j (fun h => hk (Or.inl h)))) hE)
  · skip
    replace hE := zf_nl hE c9_4
    refine mm_g 1 (pc1 := 13) (lo1 := [some (.ref 137), some (.int (Int32.ofInt v1)), none, none]) (st1 := [.ref 137]) (H1 := mz_mk g2 x) rfl ?_
    refine mz_fgR (v := 140) rfl fd_12_36 (by decide) (sc_137 _) (rf_137_3 _ _ _) ?_
    refine mm_g 1 (pc1 := 17) (lo1 := [some (.ref 137), some (.int (Int32.ofInt v1)), none, none]) (st1 := [.int (Int32.ofInt 1), .ref 140]) (H1 := mz_mk g2 x) rfl ?_
    refine mz_ia (v := (g 140 1)) rfl (sh_140 _) (by decide) (by decide) (by decide) (show g2 140 1 = (g 140 1) from ((hfg2 140 1 (fun h => (absurd (show 140 = 137 from (h).1) (by decide)))).trans rfl)) ?_
    replace hE := zf_tr hE (zf_le (show g2 140 1 = (g 140 1) from ((hfg2 140 1 (fun h => (absurd (show 140 = 137 from (h).1) (by decide)))).trans rfl)))
    refine mz_if_ne (tgt := 22) rfl rfl ⟨by omega, by omega⟩ (fun c18_4 => ?_) (fun c18_4 => ?_)
    · skip
      replace hE := zf_in hE c18_4
      refine mm_g 2 (pc1 := 24) (lo1 := [some (.ref 137), some (.int (Int32.ofInt v1)), none, none]) (st1 := [.ref 137, .ref 137]) (H1 := mz_mk g2 x) rfl ?_
      refine mz_fgR (v := 140) rfl fd_12_36 (by decide) (sc_137 _) (rf_137_3 _ _ _) ?_
      refine mm_g 1 (pc1 := 28) (lo1 := [some (.ref 137), some (.int (Int32.ofInt v1)), none, none]) (st1 := [.int (Int32.ofInt 1), .ref 140, .ref 137]) (H1 := mz_mk g2 x) rfl ?_
      refine mz_ia (v := (g 140 1)) rfl (sh_140 _) (by decide) (by decide) (by decide) (show g2 140 1 = (g 140 1) from ((hfg2 140 1 (fun h => (absurd (show 140 = 137 from (h).1) (by decide)))).trans rfl)) ?_
      replace hE := zf_tr hE (zf_le (show g2 140 1 = (g 140 1) from ((hfg2 140 1 (fun h => (absurd (show 140 = 137 from (h).1) (by decide)))).trans rfl)))
      refine mz_cv rfl mt_12_499 (by decide) (sc_137 _) rfl (Nat.le_of_ble_eq_true rfl) (by omega) (f_X12_drawOf (by omega) hx hIg2 (by omega) (by omega) (fun v5 g6 hIg6 hfg6 l_v5 u_v5 hp7 hc8 => ⟨_, rfl, ?_⟩))
      show mm_W d mmX12_something 32 [some (.ref 137), some (.int (Int32.ofInt v1)), none, none] [.int (Int32.ofInt v5)] (mz_mk g6 x) Q
      replace hE := zf_t2 hE hc8
      refine mm_g 2 (pc1 := 34) (lo1 := [some (.ref 137), some (.int (Int32.ofInt v1)), some (.int (Int32.ofInt v5)), none]) (st1 := [.int (Int32.ofInt v1)]) (H1 := mz_mk g6 x) rfl ?_
      refine mz_if_ne (tgt := 42) rfl rfl (mz_rg l_v1 u_v1) (fun c34_8 => ?_) (fun c34_8 => ?_)
      · skip
        replace hE := zf_in hE c34_8
        refine mm_g 2 (pc1 := 44) (lo1 := [some (.ref 137), some (.int (Int32.ofInt v1)), some (.int (Int32.ofInt v5)), none]) (st1 := [.int (Int32.ofInt 1), .int (Int32.ofInt v1)]) (H1 := mz_mk g6 x) rfl ?_
        refine mz_ic_ne (tgt := 59) rfl rfl (mz_rg l_v1 u_v1) ⟨by decide, by decide⟩ (fun c44_8 => ?_) (fun c44_8 => ?_)
        · skip
          replace hE := zf_in hE c44_8
          refine mm_g 2 (pc1 := 61) (lo1 := [some (.ref 137), some (.int (Int32.ofInt v1)), some (.int (Int32.ofInt v5)), none]) (st1 := [.int (Int32.ofInt 2), .int (Int32.ofInt v1)]) (H1 := mz_mk g6 x) rfl ?_
          refine mz_ic_ne (tgt := 86) rfl rfl (mz_rg l_v1 u_v1) ⟨by decide, by decide⟩ (fun c61_8 => ?_) (fun c61_8 => ?_)
          · exfalso; omega
          · skip
            replace hE := zf_ip hE c61_8
            refine mm_g 2 (pc1 := 66) (lo1 := [some (.ref 137), some (.int (Int32.ofInt v1)), some (.int (Int32.ofInt v5)), none]) (st1 := [.ref 137, .ref 137]) (H1 := mz_mk g6 x) rfl ?_
            refine mz_fgR (v := 140) rfl fd_12_36 (by decide) (sc_137 _) (rf_137_3 _ _ _) ?_
            refine mm_g 1 (pc1 := 70) (lo1 := [some (.ref 137), some (.int (Int32.ofInt v1)), some (.int (Int32.ofInt v5)), none]) (st1 := [.int (Int32.ofInt 0), .ref 140, .ref 137]) (H1 := mz_mk g6 x) rfl ?_
            refine mz_ia (v := (g 140 0)) rfl (sh_140 _) (by decide) (by decide) (by decide) (show g6 140 0 = (g 140 0) from ((hfg6 140 0 (fun h => (absurd (show 140 = 137 from (h).1) (by decide)))).trans ((hfg2 140 0 (fun h => (absurd (show 140 = 137 from (h).1) (by decide)))).trans rfl))) ?_
            replace hE := zf_tr hE (zf_le (show g6 140 0 = (g 140 0) from ((hfg6 140 0 (fun h => (absurd (show 140 = 137 from (h).1) (by decide)))).trans ((hfg2 140 0 (fun h => (absurd (show 140 = 137 from (h).1) (by decide)))).trans rfl))))
            refine mz_cv rfl mt_12_499 (by decide) (sc_137 _) rfl (Nat.le_of_ble_eq_true rfl) (by omega) (f_X12_drawOf (by omega) hx hIg6 (by omega) (by omega) (fun v9 g10 hIg10 hfg10 l_v9 u_v9 hp11 hc12 => ⟨_, rfl, ?_⟩))
            show mm_W d mmX12_something 74 [some (.ref 137), some (.int (Int32.ofInt v1)), some (.int (Int32.ofInt v5)), none] [.int (Int32.ofInt v9)] (mz_mk g10 x) Q
            replace hE := zf_t2 hE hc12
            refine mm_g 5 (pc1 := 79) (lo1 := [some (.ref 137), some (.int (Int32.ofInt v1)), some (.int (Int32.ofInt v5)), some (.int (Int32.ofInt v9))]) (st1 := [.int (Int32.ofInt 2), .ref 137, .int (Int32.ofInt v5), .ref 137]) (H1 := mz_mk g10 x) rfl ?_
            refine mz_cv rfl mt_12_499 (by decide) (sc_137 _) rfl (Nat.le_of_ble_eq_true rfl) (by omega) (f_X12_drawOf (by omega) hx hIg10 (by decide) (by decide) (fun v13 g14 hIg14 hfg14 l_v13 u_v13 hp15 hc16 => ⟨_, rfl, ?_⟩))
            show mm_W d mmX12_something 82 [some (.ref 137), some (.int (Int32.ofInt v1)), some (.int (Int32.ofInt v5)), some (.int (Int32.ofInt v9))] [.int (Int32.ofInt v13), .int (Int32.ofInt v5), .ref 137] (mz_mk g14 x) Q
            replace hE := zf_t2 hE hc16
            refine mm_g 1 (pc1 := 83) (lo1 := [some (.ref 137), some (.int (Int32.ofInt v1)), some (.int (Int32.ofInt v5)), some (.int (Int32.ofInt v9))]) (st1 := [.int (Int32.ofInt v9), .int (Int32.ofInt v13), .int (Int32.ofInt v5), .ref 137]) (H1 := mz_mk g14 x) rfl ?_
            refine mz_cv rfl mt_12_417 (by decide) (sc_137 _) rfl (Nat.le_of_ble_eq_true rfl) (by omega) (f_X12_packIn (by omega) hx hIg14 (by omega) (by omega) (by omega) (by omega) (by omega) (by omega) (fun g17 hIg17 hfg17 hc18 => ⟨_, rfl, ?_⟩))
            show mm_W d mmX12_something 86 [some (.ref 137), some (.int (Int32.ofInt v1)), some (.int (Int32.ofInt v5)), some (.int (Int32.ofInt v9))] [] (mz_mk g17 x) Q
            replace hE := zf_t1 hE hc18
            exact mm_rt rfl rfl (hQ _ hIg17 (fun k j hk => ((hfg17 k j (fun h => hk (Or.elim h (fun h => (Or.inr (Or.inl h))) (fun h => (Or.elim h (fun h => (Or.inr (Or.inr (Or.inl h)))) (fun h => (Or.inr (Or.inr (Or.inr (Or.inl h)))))))))).trans ((hfg14 k j (fun h => hk (Or.inl h))).trans ((hfg10 k j (fun h => hk (Or.inl h))).trans ((hfg6 k j (fun h => hk (Or.inl h))).trans (hfg2 k j (fun h => hk (Or.inl h)))))))) hE)
        · skip
          replace hE := zf_ip hE c44_8
          refine mm_g 1 (pc1 := 48) (lo1 := [some (.ref 137), some (.int (Int32.ofInt v1)), some (.int (Int32.ofInt v5)), none]) (st1 := [.ref 137]) (H1 := mz_mk g6 x) rfl ?_
          refine mz_fgR (v := 155) rfl fd_12_82 (by decide) (sc_137 _) (rf_137_28 _ _ _) ?_
          refine mm_g 2 (pc1 := 53) (lo1 := [some (.ref 137), some (.int (Int32.ofInt v1)), some (.int (Int32.ofInt v5)), none]) (st1 := [.ref 137, .int (Int32.ofInt v5), .ref 155]) (H1 := mz_mk g6 x) rfl ?_
          refine mz_bip rfl bip_10 ?_
          refine mz_cv rfl mt_12_499 (by decide) (sc_137 _) rfl (Nat.le_of_ble_eq_true rfl) (by omega) (f_X12_drawOf (by omega) hx hIg6 (by decide) (by decide) (fun v19 g20 hIg20 hfg20 l_v19 u_v19 hp21 hc22 => ⟨_, rfl, ?_⟩))
          show mm_W d mmX12_something 58 [some (.ref 137), some (.int (Int32.ofInt v1)), some (.int (Int32.ofInt v5)), none] [.int (Int32.ofInt v19), .int (Int32.ofInt v5), .ref 155] (mz_mk g20 x) Q
          replace hE := zf_t2 hE hc22
          refine mz_sI rfl (sh_155 _) (by omega) (by omega) (by decide) hIg20 (ba_155 _) (by omega) (by omega) (fun g23 hIg23 hug23 => ?_)
          replace hE := zf_tr hE (zf_lg hug23)
          refine mm_g 2 (pc1 := 61) (lo1 := [some (.ref 137), some (.int (Int32.ofInt v1)), some (.int (Int32.ofInt v5)), none]) (st1 := [.int (Int32.ofInt 2), .int (Int32.ofInt v1)]) (H1 := mz_mk g23 x) rfl ?_
          refine mz_ic_ne (tgt := 86) rfl rfl (mz_rg l_v1 u_v1) ⟨by decide, by decide⟩ (fun c61_23 => ?_) (fun c61_23 => ?_)
          · skip
            replace hE := zf_in hE c61_23
            exact mm_rt rfl rfl (hQ _ hIg23 (fun k j hk => ((hug23.2 k j (fun h => hk (Or.inr (Or.inr (Or.inr (Or.inr h.1)))))).trans ((hfg20 k j (fun h => hk (Or.inl h))).trans ((hfg6 k j (fun h => hk (Or.inl h))).trans (hfg2 k j (fun h => hk (Or.inl h))))))) hE)
          · exfalso; omega
      · skip
        replace hE := zf_ip hE c34_8
        refine mm_g 2 (pc1 := 39) (lo1 := [some (.ref 137), some (.int (Int32.ofInt v1)), some (.int (Int32.ofInt v5)), none]) (st1 := [.int (Int32.ofInt v5), .ref 137]) (H1 := mz_mk g6 x) rfl ?_
        refine mz_cv rfl mt_12_414 (by decide) (sc_137 _) rfl (Nat.le_of_ble_eq_true rfl) (by omega) (f_X12_turnRound (by omega) hx hIg6 (by omega) (by omega) (fun g24 hIg24 hfg24 hc25 => ⟨_, rfl, ?_⟩))
        show mm_W d mmX12_something 42 [some (.ref 137), some (.int (Int32.ofInt v1)), some (.int (Int32.ofInt v5)), none] [] (mz_mk g24 x) Q
        replace hE := zf_t1 hE hc25
        refine mm_g 2 (pc1 := 44) (lo1 := [some (.ref 137), some (.int (Int32.ofInt v1)), some (.int (Int32.ofInt v5)), none]) (st1 := [.int (Int32.ofInt 1), .int (Int32.ofInt v1)]) (H1 := mz_mk g24 x) rfl ?_
        refine mz_ic_ne (tgt := 59) rfl rfl (mz_rg l_v1 u_v1) ⟨by decide, by decide⟩ (fun c44_25 => ?_) (fun c44_25 => ?_)
        · skip
          replace hE := zf_in hE c44_25
          refine mm_g 2 (pc1 := 61) (lo1 := [some (.ref 137), some (.int (Int32.ofInt v1)), some (.int (Int32.ofInt v5)), none]) (st1 := [.int (Int32.ofInt 2), .int (Int32.ofInt v1)]) (H1 := mz_mk g24 x) rfl ?_
          refine mz_ic_ne (tgt := 86) rfl rfl (mz_rg l_v1 u_v1) ⟨by decide, by decide⟩ (fun c61_25 => ?_) (fun c61_25 => ?_)
          · skip
            replace hE := zf_in hE c61_25
            exact mm_rt rfl rfl (hQ _ hIg24 (fun k j hk => ((hfg24 k j (fun h => hk (Or.elim h (fun h => (Or.inr (Or.inr (Or.inr (Or.inl h))))) (fun h => (Or.elim h (fun h => (Or.inr (Or.inl h))) (fun h => (Or.inr (Or.inr (Or.inl h))))))))).trans ((hfg6 k j (fun h => hk (Or.inl h))).trans (hfg2 k j (fun h => hk (Or.inl h)))))) hE)
          · exfalso; omega
        · exfalso; omega
    · skip
      replace hE := zf_ip hE c18_4
      exact mm_rt rfl rfl (hQ _ hIg2 (fun k j hk => (hfg2 k j (fun h => hk (Or.inl h)))) hE)
def fl_X12_years_61 (x : mm_X) (a1 : Int) (a2 : Int) (a3 : Int) : Nat → Nat → Prop := fun k j => (k = 137 ∧ j = 52) ∨ k = 154 ∨ k = 152 ∨ k = 153 ∨ k = 155 ∨ (k = 160 ∧ j = 0) ∨ (k = 160 ∧ j = 1) ∨ (k = 160 ∧ j = 2) ∨ (k = 160 ∧ j = 3) ∨ (k = 160 ∧ j = 4) ∨ (k = 160 ∧ j = 5) ∨ (k = 160 ∧ j = 6) ∨ k = 161 ∨ (k = 137 ∧ j = 30)
def fw_X12_years (x : mm_X) (a1 : Int) (a2 : Int) (a3 : Int) : Nat → Nat → Prop := fun k j => (k = 137 ∧ j = 2) ∨ k = 162 ∨ (k = 137 ∧ j = 52) ∨ k = 154 ∨ k = 152 ∨ k = 153 ∨ k = 155 ∨ (k = 160 ∧ j = 0) ∨ (k = 160 ∧ j = 1) ∨ (k = 160 ∧ j = 2) ∨ (k = 160 ∧ j = 3) ∨ (k = 160 ∧ j = 4) ∨ (k = 160 ∧ j = 5) ∨ (k = 160 ∧ j = 6) ∨ k = 161 ∨ (k = 137 ∧ j = 30)
theorem f_X12_years {d : Nat} (hd : 16 ≤ d) {x : mm_X} (hx : mk_x x) {g : mz_G} (hI : mz_inv g) {a1 : Int} (l_a1 : (-2147483648) ≤ a1) (u_a1 : a1 ≤ 2147483647) {a2 : Int} (l_a2 : (-2147483648) ≤ a2) (u_a2 : a2 ≤ 2147483647) {a3 : Int} (l_a3 : (-2147483648) ≤ a3) (u_a3 : a3 ≤ 2147483647) (p1 : mz_pv g) (p2 : g 137 30 ≤ 999) (p3 : 0 < g 140 1 → 0 < g 140 0) {Q : (Option Value ⊕ Nat) → mm_H → Prop} (hQ : ∀ (r : Int) (g1 : mz_G), mz_inv g1 → mz_fr (fw_X12_years x a1 a2 a3) g g1 → (-2147483648) ≤ r → r ≤ 2147483647 → (g1 137 30 ≤ 999) → zf_E (zF_X12_years a1 a2 a3 g) ((r, g1)) → Q (.inl (some (.int (Int32.ofInt r)))) (mz_mk g1 x)) : mm_C d 289 [.ref 137, .int (Int32.ofInt a1), .int (Int32.ofInt a2), .int (Int32.ofInt a3)] (mz_mk g x) Q := by
  refine ⟨mmX12_years, [some (.ref 137), some (.int (Int32.ofInt a1)), some (.int (Int32.ofInt a2)), some (.int (Int32.ofInt a3)), none, none, none], rfl, rfl, ?_⟩
  have bz0 := mz_rd hI bd_137_30
  have hpv := p1
  have hE : zf_E (zF_X12_years a1 a2 a3 g) (zF_X12_years a1 a2 a3 g) := zf_rf
  refine mm_g 2 (pc1 := 2) (lo1 := [some (.ref 137), some (.int (Int32.ofInt a1)), some (.int (Int32.ofInt a2)), some (.int (Int32.ofInt a3)), none, none, none]) (st1 := [.int (Int32.ofInt 0), .ref 137]) (H1 := mz_mk g x) rfl ?_
  refine mz_pI rfl fd_12_154 (sc_137 _) hI bd_137_2 (by omega) (by omega) (fun g1 hIg1 hug1 => ?_)
  replace hE := zf_tr hE (zf_lg hug1)
  refine mm_g 1 (pc1 := 6) (lo1 := [some (.ref 137), some (.int (Int32.ofInt a1)), some (.int (Int32.ofInt a2)), some (.int (Int32.ofInt a3)), none, none, none]) (st1 := [.int (Int32.ofInt a3)]) (H1 := mz_mk g1 x) rfl ?_
  refine mz_i2l rfl (mz_rg l_a3 u_a3) ?_
  refine mz_lcst (c := 0) rfl rfl ?_
  refine mz_l2w (c := 2) rfl rfl rfl ?_
  refine mz_cs rfl mt_12_157 (by decide) rfl (Nat.le_of_ble_eq_true rfl) (by omega) (f_X12_isIn (by omega) hx hIg1 (by omega) (by omega) (by omega) (by omega) (by omega) (by omega) (fun v2 l_v2 u_v2 hp3 hc4 => ⟨_, rfl, ?_⟩))
  show mm_W d mmX12_years 14 [some (.ref 137), some (.int (Int32.ofInt a1)), some (.int (Int32.ofInt a2)), some (.int (Int32.ofInt a3)), none, none, none] [.int (Int32.ofInt v2)] (mz_mk g1 x) Q
  replace hE := zf_t1 hE hc4
  refine mz_if_ne (tgt := 23) rfl rfl (mz_rg l_v2 u_v2) (fun c14_4 => ?_) (fun c14_4 => ?_)
  · skip
    replace hE := zf_in hE c14_4
    refine mm_g 1 (pc1 := 24) (lo1 := [some (.ref 137), some (.int (Int32.ofInt a1)), some (.int (Int32.ofInt a2)), some (.int (Int32.ofInt a3)), none, none, none]) (st1 := [.int (Int32.ofInt a2)]) (H1 := mz_mk g1 x) rfl ?_
    refine mz_i2l rfl (mz_rg l_a2 u_a2) ?_
    refine mz_lcst (c := 0) rfl rfl ?_
    refine mz_l2w (c := 60) rfl rfl rfl ?_
    refine mz_cs rfl mt_12_157 (by decide) rfl (Nat.le_of_ble_eq_true rfl) (by omega) (f_X12_isIn (by omega) hx hIg1 (by omega) (by omega) (by omega) (by omega) (by omega) (by omega) (fun v5 l_v5 u_v5 hp6 hc7 => ⟨_, rfl, ?_⟩))
    show mm_W d mmX12_years 32 [some (.ref 137), some (.int (Int32.ofInt a1)), some (.int (Int32.ofInt a2)), some (.int (Int32.ofInt a3)), none, none, none] [.int (Int32.ofInt v5)] (mz_mk g1 x) Q
    replace hE := zf_t1 hE hc7
    refine mz_if_ne (tgt := 41) rfl rfl (mz_rg l_v5 u_v5) (fun c32_7 => ?_) (fun c32_7 => ?_)
    · skip
      replace hE := zf_in hE c32_7
      refine mm_g 2 (pc1 := 43) (lo1 := [some (.ref 137), some (.int (Int32.ofInt a1)), some (.int (Int32.ofInt a2)), some (.int (Int32.ofInt a3)), none, none, none]) (st1 := [.ref 137, .ref 137]) (H1 := mz_mk g1 x) rfl ?_
      refine mz_fgR (v := 162) rfl fd_12_103 (by decide) (sc_137 _) (rf_137_40 _ _ _) ?_
      refine mm_g 1 (pc1 := 47) (lo1 := [some (.ref 137), some (.int (Int32.ofInt a1)), some (.int (Int32.ofInt a2)), some (.int (Int32.ofInt a3)), none, none, none]) (st1 := [.int (Int32.ofInt 0), .ref 162, .ref 137]) (H1 := mz_mk g1 x) rfl ?_
      refine mz_cv rfl mt_12_397 (by decide) (sc_137 _) rfl (Nat.le_of_ble_eq_true rfl) (by omega) (f_X12_store (by omega) hx hIg1 rwp_162 (by decide) (by decide) (by omega) (by omega) (by have h9 := (show g1 137 30 = (g 137 30) from ((hug1.2 137 30 (fun h => absurd h.2 (by decide))).trans rfl)); omega) (fun g8 hIg8 hfg8 hc9 => ⟨_, rfl, ?_⟩))
      show mm_W d mmX12_years 50 [some (.ref 137), some (.int (Int32.ofInt a1)), some (.int (Int32.ofInt a2)), some (.int (Int32.ofInt a3)), none, none, none] [] (mz_mk g8 x) Q
      replace hE := zf_t1 hE hc9
      refine mm_g 2 (pc1 := 52) (lo1 := [some (.ref 137), some (.int (Int32.ofInt a1)), some (.int (Int32.ofInt a2)), some (.int (Int32.ofInt a3)), none, none, none]) (st1 := [.int (Int32.ofInt a1), .ref 137]) (H1 := mz_mk g8 x) rfl ?_
      refine mz_pI rfl fd_12_495 (sc_137 _) hIg8 bd_137_52 (by omega) (by omega) (fun g10 hIg10 hug10 => ?_)
      replace hE := zf_tr hE (zf_lg hug10)
      refine mm_g 4 (pc1 := 61) (lo1 := [some (.ref 137), some (.int (Int32.ofInt a1)), some (.int (Int32.ofInt a2)), some (.int (Int32.ofInt a3)), some (.int (Int32.ofInt 0)), some (.int (Int32.ofInt 0)), none]) (st1 := []) (H1 := mz_mk g10 x) rfl ?_
      have L17 : ∀ n16 : Nat, ∀ (v11 : Int) (v12 : Int) (o13 : Option Value) (g14 : mz_G), (60 - v12).toNat = n16 → (-2147483648) ≤ v11 → v11 ≤ 2147483647 → 0 ≤ v12 → v12 ≤ 60 → mz_nl o13 → mz_inv g14 → mz_fr (fl_X12_years_61 x a1 a2 a3) g10 g14 → (g14 137 30 ≤ 999 + v12) → (∃ fk : Nat, (60 - v12).toNat < fk ∧ zf_E (zF_X12_years a1 a2 a3 g) (zL_X12_years_61 a1 a2 a3 fk v11 v12 g14)) → mm_W d mmX12_years 61 [some (.ref 137), some (.int (Int32.ofInt a1)), some (.int (Int32.ofInt a2)), some (.int (Int32.ofInt a3)), some (.int (Int32.ofInt v11)), some (.int (Int32.ofInt v12)), o13] [] (mz_mk g14 x) Q := by
        intro n16
        induction n16 using Nat.strongRecOn with
        | ind n16 ih15 =>
        intro v11 v12 o13 g14 hmn16 l_v11 u_v11 l_v12 u_v12 h_o13 hIg14 hfg14 hv18 hF
        obtain ⟨fk, fl, hE⟩ := hF
        obtain ⟨fj19, rfl⟩ : ∃ fj, fk = fj + 1 := ⟨fk - 1, by omega⟩
        have fn20 : n16 ≤ fj19 := by omega
        replace hE := zf_tr hE zL_X12_years_61_s
        have bz_g14_30 := mz_rd hIg14 bd_137_30
        refine mm_g 2 (pc1 := 64) (lo1 := [some (.ref 137), some (.int (Int32.ofInt a1)), some (.int (Int32.ofInt a2)), some (.int (Int32.ofInt a3)), some (.int (Int32.ofInt v11)), some (.int (Int32.ofInt v12)), o13]) (st1 := [.int (Int32.ofInt a2), .int (Int32.ofInt v12)]) (H1 := mz_mk g14 x) rfl ?_
        refine mz_ic_ge (tgt := 105) rfl rfl (mz_rg l_v12 u_v12) (mz_rg l_a2 u_a2) (fun c64_20 => ?_) (fun c64_20 => ?_)
        · skip
          replace hE := zf_nl hE c64_20
          refine mm_g 1 (pc1 := 106) (lo1 := [some (.ref 137), some (.int (Int32.ofInt a1)), some (.int (Int32.ofInt a2)), some (.int (Int32.ofInt a3)), some (.int (Int32.ofInt v11)), some (.int (Int32.ofInt v12)), o13]) (st1 := [.int (Int32.ofInt a3)]) (H1 := mz_mk g14 x) rfl ?_
          refine mz_if_ne (tgt := 114) rfl rfl (mz_rg l_a3 u_a3) (fun c106_20 => ?_) (fun c106_20 => ?_)
          · skip
            replace hE := zf_in hE c106_20
            refine mm_g 2 (pc1 := 116) (lo1 := [some (.ref 137), some (.int (Int32.ofInt a1)), some (.int (Int32.ofInt a2)), some (.int (Int32.ofInt a3)), some (.int (Int32.ofInt v11)), some (.int (Int32.ofInt v12)), o13]) (st1 := [.int (Int32.ofInt 1), .int (Int32.ofInt a3)]) (H1 := mz_mk g14 x) rfl ?_
            refine mz_ic_ne (tgt := 129) rfl rfl (mz_rg l_a3 u_a3) ⟨by decide, by decide⟩ (fun c116_20 => ?_) (fun c116_20 => ?_)
            · skip
              replace hE := zf_in hE c116_20
              refine mm_g 1 (pc1 := 130) (lo1 := [some (.ref 137), some (.int (Int32.ofInt a1)), some (.int (Int32.ofInt a2)), some (.int (Int32.ofInt a3)), some (.int (Int32.ofInt v11)), some (.int (Int32.ofInt v12)), o13]) (st1 := [.ref 137]) (H1 := mz_mk g14 x) rfl ?_
              refine mz_cv rfl mt_12_377 (by decide) (sc_137 _) rfl (Nat.le_of_ble_eq_true rfl) (by omega) (f_X12_allLetters (by omega) hx hIg14 (fun v21 l_v21 u_v21 hc22 => ⟨_, rfl, ?_⟩))
              show mm_W d mmX12_years 133 [some (.ref 137), some (.int (Int32.ofInt a1)), some (.int (Int32.ofInt a2)), some (.int (Int32.ofInt a3)), some (.int (Int32.ofInt v11)), some (.int (Int32.ofInt v12)), o13] [.int (Int32.ofInt v21)] (mz_mk g14 x) Q
              replace hE := zf_t1 hE hc22
              refine mm_g 3 (pc1 := 137) (lo1 := [some (.ref 137), some (.int (Int32.ofInt a1)), some (.int (Int32.ofInt a2)), some (.int (Int32.ofInt a3)), some (.int (Int32.ofInt v11)), some (.int (Int32.ofInt v21)), o13]) (st1 := [.ref 137, .ref 137]) (H1 := mz_mk g14 x) rfl ?_
              refine mz_fgR (v := 162) rfl fd_12_103 (by decide) (sc_137 _) (rf_137_40 _ _ _) ?_
              refine mm_g 1 (pc1 := 141) (lo1 := [some (.ref 137), some (.int (Int32.ofInt a1)), some (.int (Int32.ofInt a2)), some (.int (Int32.ofInt a3)), some (.int (Int32.ofInt v11)), some (.int (Int32.ofInt v21)), o13]) (st1 := [.int (Int32.ofInt 0), .ref 162, .ref 137]) (H1 := mz_mk g14 x) rfl ?_
              refine mz_cv rfl mt_12_421 (by decide) (sc_137 _) rfl (Nat.le_of_ble_eq_true rfl) (by omega) (f_X12_recall (by omega) hx hIg14 rwp_162 (by decide) (by decide) (by omega) (by omega) (fun g23 hIg23 hfg23 hp24 hc25 => ⟨_, rfl, ?_⟩))
              show mm_W d mmX12_years 144 [some (.ref 137), some (.int (Int32.ofInt a1)), some (.int (Int32.ofInt a2)), some (.int (Int32.ofInt a3)), some (.int (Int32.ofInt v11)), some (.int (Int32.ofInt v21)), o13] [] (mz_mk g23 x) Q
              replace hE := zf_t1 hE hc25
              refine mm_g 1 (pc1 := 146) (lo1 := [some (.ref 137), some (.int (Int32.ofInt a1)), some (.int (Int32.ofInt a2)), some (.int (Int32.ofInt a3)), some (.int (Int32.ofInt v11)), some (.int (Int32.ofInt v21)), o13]) (st1 := [.int (Int32.ofInt v21)]) (H1 := mz_mk g23 x) rfl ?_
              exact mm_rt rfl rfl (hQ _ _ hIg23 (fun k j hk => ((hfg23 k j (fun h => hk (Or.elim h (fun h => (Or.inr (Or.inr (Or.inr (Or.inr (Or.inr (Or.inr (Or.inr (Or.inr (Or.inr (Or.inr (Or.inr (Or.inr (Or.inr (Or.inr (Or.inr h)))))))))))))))) (fun h => (Or.elim h (fun h => (Or.inr (Or.inr (Or.inr (Or.inr (Or.inl h)))))) (fun h => (Or.elim h (fun h => (Or.inr (Or.inr (Or.inr (Or.inr (Or.inr (Or.inl h))))))) (fun h => (Or.elim h (fun h => (Or.inr (Or.inr (Or.inr (Or.inl h))))) (fun h => (Or.inr (Or.inr (Or.inr (Or.inr (Or.inr (Or.inr (Or.inl h))))))))))))))))).trans ((hfg14 k j (fun h => hk (Or.elim h (fun h => (Or.inr (Or.inr (Or.inl h)))) (fun h => (Or.elim h (fun h => (Or.inr (Or.inr (Or.inr (Or.inl h))))) (fun h => (Or.elim h (fun h => (Or.inr (Or.inr (Or.inr (Or.inr (Or.inl h)))))) (fun h => (Or.elim h (fun h => (Or.inr (Or.inr (Or.inr (Or.inr (Or.inr (Or.inl h))))))) (fun h => (Or.elim h (fun h => (Or.inr (Or.inr (Or.inr (Or.inr (Or.inr (Or.inr (Or.inl h)))))))) (fun h => (Or.elim h (fun h => (Or.inr (Or.inr (Or.inr (Or.inr (Or.inr (Or.inr (Or.inr (Or.inl h))))))))) (fun h => (Or.elim h (fun h => (Or.inr (Or.inr (Or.inr (Or.inr (Or.inr (Or.inr (Or.inr (Or.inr (Or.inl h)))))))))) (fun h => (Or.elim h (fun h => (Or.inr (Or.inr (Or.inr (Or.inr (Or.inr (Or.inr (Or.inr (Or.inr (Or.inr (Or.inl h))))))))))) (fun h => (Or.elim h (fun h => (Or.inr (Or.inr (Or.inr (Or.inr (Or.inr (Or.inr (Or.inr (Or.inr (Or.inr (Or.inr (Or.inl h)))))))))))) (fun h => (Or.elim h (fun h => (Or.inr (Or.inr (Or.inr (Or.inr (Or.inr (Or.inr (Or.inr (Or.inr (Or.inr (Or.inr (Or.inr (Or.inl h))))))))))))) (fun h => (Or.elim h (fun h => (Or.inr (Or.inr (Or.inr (Or.inr (Or.inr (Or.inr (Or.inr (Or.inr (Or.inr (Or.inr (Or.inr (Or.inr (Or.inl h)))))))))))))) (fun h => (Or.elim h (fun h => (Or.inr (Or.inr (Or.inr (Or.inr (Or.inr (Or.inr (Or.inr (Or.inr (Or.inr (Or.inr (Or.inr (Or.inr (Or.inr (Or.inl h))))))))))))))) (fun h => (Or.elim h (fun h => (Or.inr (Or.inr (Or.inr (Or.inr (Or.inr (Or.inr (Or.inr (Or.inr (Or.inr (Or.inr (Or.inr (Or.inr (Or.inr (Or.inr (Or.inl h)))))))))))))))) (fun h => (Or.inr (Or.inr (Or.inr (Or.inr (Or.inr (Or.inr (Or.inr (Or.inr (Or.inr (Or.inr (Or.inr (Or.inr (Or.inr (Or.inr (Or.inr h))))))))))))))))))))))))))))))))))))))))))).trans ((hug10.2 k j (fun h => hk (Or.inr (Or.inr (Or.inl h))))).trans ((hfg8 k j (fun h => hk (Or.inr (Or.inl h)))).trans (hug1.2 k j (fun h => hk (Or.inl h)))))))) (by omega) (by omega) (by omega) hE)
            · skip
              replace hE := zf_ip hE c116_20
              refine mm_g 1 (pc1 := 120) (lo1 := [some (.ref 137), some (.int (Int32.ofInt a1)), some (.int (Int32.ofInt a2)), some (.int (Int32.ofInt a3)), some (.int (Int32.ofInt v11)), some (.int (Int32.ofInt v12)), o13]) (st1 := [.ref 137]) (H1 := mz_mk g14 x) rfl ?_
              refine mz_cv rfl mt_12_371 (by decide) (sc_137 _) rfl (Nat.le_of_ble_eq_true rfl) (by omega) (f_X12_fullOnes (by omega) hx hIg14 (fun v26 l_v26 u_v26 hc27 => ⟨_, rfl, ?_⟩))
              show mm_W d mmX12_years 123 [some (.ref 137), some (.int (Int32.ofInt a1)), some (.int (Int32.ofInt a2)), some (.int (Int32.ofInt a3)), some (.int (Int32.ofInt v11)), some (.int (Int32.ofInt v12)), o13] [.int (Int32.ofInt v26)] (mz_mk g14 x) Q
              replace hE := zf_t1 hE hc27
              refine mz_cs rfl mt_12_484 (by decide) rfl (Nat.le_of_ble_eq_true rfl) (by omega) (f_X12_bitsOf (by omega) hx hIg14 (by omega) (by omega) (fun v28 l_v28 u_v28 hc29 => ⟨_, rfl, ?_⟩))
              show mm_W d mmX12_years 126 [some (.ref 137), some (.int (Int32.ofInt a1)), some (.int (Int32.ofInt a2)), some (.int (Int32.ofInt a3)), some (.int (Int32.ofInt v11)), some (.int (Int32.ofInt v12)), o13] [.int (Int32.ofInt v28)] (mz_mk g14 x) Q
              replace hE := zf_t1 hE hc29
              refine mz_gt (tgt := 133) rfl rfl ?_
              refine mm_g 3 (pc1 := 137) (lo1 := [some (.ref 137), some (.int (Int32.ofInt a1)), some (.int (Int32.ofInt a2)), some (.int (Int32.ofInt a3)), some (.int (Int32.ofInt v11)), some (.int (Int32.ofInt v28)), o13]) (st1 := [.ref 137, .ref 137]) (H1 := mz_mk g14 x) rfl ?_
              refine mz_fgR (v := 162) rfl fd_12_103 (by decide) (sc_137 _) (rf_137_40 _ _ _) ?_
              refine mm_g 1 (pc1 := 141) (lo1 := [some (.ref 137), some (.int (Int32.ofInt a1)), some (.int (Int32.ofInt a2)), some (.int (Int32.ofInt a3)), some (.int (Int32.ofInt v11)), some (.int (Int32.ofInt v28)), o13]) (st1 := [.int (Int32.ofInt 0), .ref 162, .ref 137]) (H1 := mz_mk g14 x) rfl ?_
              refine mz_cv rfl mt_12_421 (by decide) (sc_137 _) rfl (Nat.le_of_ble_eq_true rfl) (by omega) (f_X12_recall (by omega) hx hIg14 rwp_162 (by decide) (by decide) (by omega) (by omega) (fun g30 hIg30 hfg30 hp31 hc32 => ⟨_, rfl, ?_⟩))
              show mm_W d mmX12_years 144 [some (.ref 137), some (.int (Int32.ofInt a1)), some (.int (Int32.ofInt a2)), some (.int (Int32.ofInt a3)), some (.int (Int32.ofInt v11)), some (.int (Int32.ofInt v28)), o13] [] (mz_mk g30 x) Q
              replace hE := zf_t1 hE hc32
              refine mm_g 1 (pc1 := 146) (lo1 := [some (.ref 137), some (.int (Int32.ofInt a1)), some (.int (Int32.ofInt a2)), some (.int (Int32.ofInt a3)), some (.int (Int32.ofInt v11)), some (.int (Int32.ofInt v28)), o13]) (st1 := [.int (Int32.ofInt v28)]) (H1 := mz_mk g30 x) rfl ?_
              exact mm_rt rfl rfl (hQ _ _ hIg30 (fun k j hk => ((hfg30 k j (fun h => hk (Or.elim h (fun h => (Or.inr (Or.inr (Or.inr (Or.inr (Or.inr (Or.inr (Or.inr (Or.inr (Or.inr (Or.inr (Or.inr (Or.inr (Or.inr (Or.inr (Or.inr h)))))))))))))))) (fun h => (Or.elim h (fun h => (Or.inr (Or.inr (Or.inr (Or.inr (Or.inl h)))))) (fun h => (Or.elim h (fun h => (Or.inr (Or.inr (Or.inr (Or.inr (Or.inr (Or.inl h))))))) (fun h => (Or.elim h (fun h => (Or.inr (Or.inr (Or.inr (Or.inl h))))) (fun h => (Or.inr (Or.inr (Or.inr (Or.inr (Or.inr (Or.inr (Or.inl h))))))))))))))))).trans ((hfg14 k j (fun h => hk (Or.elim h (fun h => (Or.inr (Or.inr (Or.inl h)))) (fun h => (Or.elim h (fun h => (Or.inr (Or.inr (Or.inr (Or.inl h))))) (fun h => (Or.elim h (fun h => (Or.inr (Or.inr (Or.inr (Or.inr (Or.inl h)))))) (fun h => (Or.elim h (fun h => (Or.inr (Or.inr (Or.inr (Or.inr (Or.inr (Or.inl h))))))) (fun h => (Or.elim h (fun h => (Or.inr (Or.inr (Or.inr (Or.inr (Or.inr (Or.inr (Or.inl h)))))))) (fun h => (Or.elim h (fun h => (Or.inr (Or.inr (Or.inr (Or.inr (Or.inr (Or.inr (Or.inr (Or.inl h))))))))) (fun h => (Or.elim h (fun h => (Or.inr (Or.inr (Or.inr (Or.inr (Or.inr (Or.inr (Or.inr (Or.inr (Or.inl h)))))))))) (fun h => (Or.elim h (fun h => (Or.inr (Or.inr (Or.inr (Or.inr (Or.inr (Or.inr (Or.inr (Or.inr (Or.inr (Or.inl h))))))))))) (fun h => (Or.elim h (fun h => (Or.inr (Or.inr (Or.inr (Or.inr (Or.inr (Or.inr (Or.inr (Or.inr (Or.inr (Or.inr (Or.inl h)))))))))))) (fun h => (Or.elim h (fun h => (Or.inr (Or.inr (Or.inr (Or.inr (Or.inr (Or.inr (Or.inr (Or.inr (Or.inr (Or.inr (Or.inr (Or.inl h))))))))))))) (fun h => (Or.elim h (fun h => (Or.inr (Or.inr (Or.inr (Or.inr (Or.inr (Or.inr (Or.inr (Or.inr (Or.inr (Or.inr (Or.inr (Or.inr (Or.inl h)))))))))))))) (fun h => (Or.elim h (fun h => (Or.inr (Or.inr (Or.inr (Or.inr (Or.inr (Or.inr (Or.inr (Or.inr (Or.inr (Or.inr (Or.inr (Or.inr (Or.inr (Or.inl h))))))))))))))) (fun h => (Or.elim h (fun h => (Or.inr (Or.inr (Or.inr (Or.inr (Or.inr (Or.inr (Or.inr (Or.inr (Or.inr (Or.inr (Or.inr (Or.inr (Or.inr (Or.inr (Or.inl h)))))))))))))))) (fun h => (Or.inr (Or.inr (Or.inr (Or.inr (Or.inr (Or.inr (Or.inr (Or.inr (Or.inr (Or.inr (Or.inr (Or.inr (Or.inr (Or.inr (Or.inr h))))))))))))))))))))))))))))))))))))))))))).trans ((hug10.2 k j (fun h => hk (Or.inr (Or.inr (Or.inl h))))).trans ((hfg8 k j (fun h => hk (Or.inr (Or.inl h)))).trans (hug1.2 k j (fun h => hk (Or.inl h)))))))) (by omega) (by omega) (by omega) hE)
          · skip
            replace hE := zf_ip hE c106_20
            refine mm_g 1 (pc1 := 111) (lo1 := [some (.ref 137), some (.int (Int32.ofInt a1)), some (.int (Int32.ofInt a2)), some (.int (Int32.ofInt a3)), some (.int (Int32.ofInt v11)), some (.int (Int32.ofInt v12)), o13]) (st1 := [.int (Int32.ofInt v11)]) (H1 := mz_mk g14 x) rfl ?_
            refine mz_gt (tgt := 133) rfl rfl ?_
            refine mm_g 3 (pc1 := 137) (lo1 := [some (.ref 137), some (.int (Int32.ofInt a1)), some (.int (Int32.ofInt a2)), some (.int (Int32.ofInt a3)), some (.int (Int32.ofInt v11)), some (.int (Int32.ofInt v11)), o13]) (st1 := [.ref 137, .ref 137]) (H1 := mz_mk g14 x) rfl ?_
            refine mz_fgR (v := 162) rfl fd_12_103 (by decide) (sc_137 _) (rf_137_40 _ _ _) ?_
            refine mm_g 1 (pc1 := 141) (lo1 := [some (.ref 137), some (.int (Int32.ofInt a1)), some (.int (Int32.ofInt a2)), some (.int (Int32.ofInt a3)), some (.int (Int32.ofInt v11)), some (.int (Int32.ofInt v11)), o13]) (st1 := [.int (Int32.ofInt 0), .ref 162, .ref 137]) (H1 := mz_mk g14 x) rfl ?_
            refine mz_cv rfl mt_12_421 (by decide) (sc_137 _) rfl (Nat.le_of_ble_eq_true rfl) (by omega) (f_X12_recall (by omega) hx hIg14 rwp_162 (by decide) (by decide) (by omega) (by omega) (fun g33 hIg33 hfg33 hp34 hc35 => ⟨_, rfl, ?_⟩))
            show mm_W d mmX12_years 144 [some (.ref 137), some (.int (Int32.ofInt a1)), some (.int (Int32.ofInt a2)), some (.int (Int32.ofInt a3)), some (.int (Int32.ofInt v11)), some (.int (Int32.ofInt v11)), o13] [] (mz_mk g33 x) Q
            replace hE := zf_t1 hE hc35
            refine mm_g 1 (pc1 := 146) (lo1 := [some (.ref 137), some (.int (Int32.ofInt a1)), some (.int (Int32.ofInt a2)), some (.int (Int32.ofInt a3)), some (.int (Int32.ofInt v11)), some (.int (Int32.ofInt v11)), o13]) (st1 := [.int (Int32.ofInt v11)]) (H1 := mz_mk g33 x) rfl ?_
            exact mm_rt rfl rfl (hQ _ _ hIg33 (fun k j hk => ((hfg33 k j (fun h => hk (Or.elim h (fun h => (Or.inr (Or.inr (Or.inr (Or.inr (Or.inr (Or.inr (Or.inr (Or.inr (Or.inr (Or.inr (Or.inr (Or.inr (Or.inr (Or.inr (Or.inr h)))))))))))))))) (fun h => (Or.elim h (fun h => (Or.inr (Or.inr (Or.inr (Or.inr (Or.inl h)))))) (fun h => (Or.elim h (fun h => (Or.inr (Or.inr (Or.inr (Or.inr (Or.inr (Or.inl h))))))) (fun h => (Or.elim h (fun h => (Or.inr (Or.inr (Or.inr (Or.inl h))))) (fun h => (Or.inr (Or.inr (Or.inr (Or.inr (Or.inr (Or.inr (Or.inl h))))))))))))))))).trans ((hfg14 k j (fun h => hk (Or.elim h (fun h => (Or.inr (Or.inr (Or.inl h)))) (fun h => (Or.elim h (fun h => (Or.inr (Or.inr (Or.inr (Or.inl h))))) (fun h => (Or.elim h (fun h => (Or.inr (Or.inr (Or.inr (Or.inr (Or.inl h)))))) (fun h => (Or.elim h (fun h => (Or.inr (Or.inr (Or.inr (Or.inr (Or.inr (Or.inl h))))))) (fun h => (Or.elim h (fun h => (Or.inr (Or.inr (Or.inr (Or.inr (Or.inr (Or.inr (Or.inl h)))))))) (fun h => (Or.elim h (fun h => (Or.inr (Or.inr (Or.inr (Or.inr (Or.inr (Or.inr (Or.inr (Or.inl h))))))))) (fun h => (Or.elim h (fun h => (Or.inr (Or.inr (Or.inr (Or.inr (Or.inr (Or.inr (Or.inr (Or.inr (Or.inl h)))))))))) (fun h => (Or.elim h (fun h => (Or.inr (Or.inr (Or.inr (Or.inr (Or.inr (Or.inr (Or.inr (Or.inr (Or.inr (Or.inl h))))))))))) (fun h => (Or.elim h (fun h => (Or.inr (Or.inr (Or.inr (Or.inr (Or.inr (Or.inr (Or.inr (Or.inr (Or.inr (Or.inr (Or.inl h)))))))))))) (fun h => (Or.elim h (fun h => (Or.inr (Or.inr (Or.inr (Or.inr (Or.inr (Or.inr (Or.inr (Or.inr (Or.inr (Or.inr (Or.inr (Or.inl h))))))))))))) (fun h => (Or.elim h (fun h => (Or.inr (Or.inr (Or.inr (Or.inr (Or.inr (Or.inr (Or.inr (Or.inr (Or.inr (Or.inr (Or.inr (Or.inr (Or.inl h)))))))))))))) (fun h => (Or.elim h (fun h => (Or.inr (Or.inr (Or.inr (Or.inr (Or.inr (Or.inr (Or.inr (Or.inr (Or.inr (Or.inr (Or.inr (Or.inr (Or.inr (Or.inl h))))))))))))))) (fun h => (Or.elim h (fun h => (Or.inr (Or.inr (Or.inr (Or.inr (Or.inr (Or.inr (Or.inr (Or.inr (Or.inr (Or.inr (Or.inr (Or.inr (Or.inr (Or.inr (Or.inl h)))))))))))))))) (fun h => (Or.inr (Or.inr (Or.inr (Or.inr (Or.inr (Or.inr (Or.inr (Or.inr (Or.inr (Or.inr (Or.inr (Or.inr (Or.inr (Or.inr (Or.inr h))))))))))))))))))))))))))))))))))))))))))).trans ((hug10.2 k j (fun h => hk (Or.inr (Or.inr (Or.inl h))))).trans ((hfg8 k j (fun h => hk (Or.inr (Or.inl h)))).trans (hug1.2 k j (fun h => hk (Or.inl h)))))))) (by omega) (by omega) (by omega) hE)
        · skip
          replace hE := zf_ip hE c64_20
          refine mm_g 1 (pc1 := 68) (lo1 := [some (.ref 137), some (.int (Int32.ofInt a1)), some (.int (Int32.ofInt a2)), some (.int (Int32.ofInt a3)), some (.int (Int32.ofInt v11)), some (.int (Int32.ofInt v12)), o13]) (st1 := [.ref 137]) (H1 := mz_mk g14 x) rfl ?_
          refine mz_cv rfl mt_12_502 (by decide) (sc_137 _) rfl (Nat.le_of_ble_eq_true rfl) (by omega) (f_X12_something (by omega) hx hIg14 (by have h8 := ((hfg14 140 1 nj_54).trans ((hug10.2 140 1 (fun h => absurd h.1 (by decide))).trans ((hfg8 140 1 (fun h => (absurd (show 140 = 162 from h) (by decide)))).trans ((hug1.2 140 1 (fun h => absurd h.1 (by decide))).trans rfl)))); have h9 := ((hfg14 140 0 nj_54).trans ((hug10.2 140 0 (fun h => absurd h.1 (by decide))).trans ((hfg8 140 0 (fun h => (absurd (show 140 = 162 from h) (by decide)))).trans ((hug1.2 140 0 (fun h => absurd h.1 (by decide))).trans rfl)))); omega) (fun g36 hIg36 hfg36 hc37 => ⟨_, rfl, ?_⟩))
          show mm_W d mmX12_years 71 [some (.ref 137), some (.int (Int32.ofInt a1)), some (.int (Int32.ofInt a2)), some (.int (Int32.ofInt a3)), some (.int (Int32.ofInt v11)), some (.int (Int32.ofInt v12)), o13] [] (mz_mk g36 x) Q
          replace hE := zf_t1 hE hc37
          refine mm_g 1 (pc1 := 72) (lo1 := [some (.ref 137), some (.int (Int32.ofInt a1)), some (.int (Int32.ofInt a2)), some (.int (Int32.ofInt a3)), some (.int (Int32.ofInt v11)), some (.int (Int32.ofInt v12)), o13]) (st1 := [.ref 137]) (H1 := mz_mk g36 x) rfl ?_
          refine mz_cv rfl mt_12_371 (by decide) (sc_137 _) rfl (Nat.le_of_ble_eq_true rfl) (by omega) (f_X12_fullOnes (by omega) hx hIg36 (fun v38 l_v38 u_v38 hc39 => ⟨_, rfl, ?_⟩))
          show mm_W d mmX12_years 75 [some (.ref 137), some (.int (Int32.ofInt a1)), some (.int (Int32.ofInt a2)), some (.int (Int32.ofInt a3)), some (.int (Int32.ofInt v11)), some (.int (Int32.ofInt v12)), o13] [.int (Int32.ofInt v38)] (mz_mk g36 x) Q
          replace hE := zf_t1 hE hc39
          refine mm_g 3 (pc1 := 79) (lo1 := [some (.ref 137), some (.int (Int32.ofInt a1)), some (.int (Int32.ofInt a2)), some (.int (Int32.ofInt a3)), some (.int (Int32.ofInt v11)), some (.int (Int32.ofInt v12)), some (.int (Int32.ofInt v38))]) (st1 := [.int (Int32.ofInt 1), .ref 137]) (H1 := mz_mk g36 x) rfl ?_
          have hq40 : g36 137 30 = (g14 137 30) := (show g36 137 30 = (g14 137 30) from ((hfg36 137 30 nj_55).trans rfl))
          refine mz_cv rfl mt_12_409 (by decide) (sc_137 _) rfl (Nat.le_of_ble_eq_true rfl) (by omega) (f_X12_goOn (by omega) hx hIg36 (by decide) (by decide) (mz_pv_fr hpv (fun _j => ((hfg36 149 _j nj_56).trans ((hfg14 149 _j nj_57).trans ((hug10.2 149 _j (fun h => absurd h.1 (by decide))).trans ((hfg8 149 _j (fun h => (absurd (show 149 = 162 from h) (by decide)))).trans ((hug1.2 149 _j (fun h => absurd h.1 (by decide))).trans rfl)))))) ((hfg36 140 3 nj_58).trans ((hfg14 140 3 nj_54).trans ((hug10.2 140 3 (fun h => absurd h.1 (by decide))).trans ((hfg8 140 3 (fun h => (absurd (show 140 = 162 from h) (by decide)))).trans ((hug1.2 140 3 (fun h => absurd h.1 (by decide))).trans rfl)))))) (by have h9 := (show g36 137 30 = (g14 137 30) from ((hfg36 137 30 nj_55).trans rfl)); omega) (fun g41 hIg41 hfg41 hp42 hc43 => ⟨_, rfl, ?_⟩))
          show mm_W d mmX12_years 82 [some (.ref 137), some (.int (Int32.ofInt a1)), some (.int (Int32.ofInt a2)), some (.int (Int32.ofInt a3)), some (.int (Int32.ofInt v11)), some (.int (Int32.ofInt v12)), some (.int (Int32.ofInt v38))] [] (mz_mk g41 x) Q
          replace hE := zf_t1 hE hc43
          refine mm_g 2 (pc1 := 85) (lo1 := [some (.ref 137), some (.int (Int32.ofInt a1)), some (.int (Int32.ofInt a2)), some (.int (Int32.ofInt a3)), some (.int (Int32.ofInt v11)), some (.int (Int32.ofInt v12)), some (.int (Int32.ofInt v38))]) (st1 := [.ref 137, .int (Int32.ofInt v11)]) (H1 := mz_mk g41 x) rfl ?_
          refine mz_cv rfl mt_12_371 (by decide) (sc_137 _) rfl (Nat.le_of_ble_eq_true rfl) (by omega) (f_X12_fullOnes (by omega) hx hIg41 (fun v44 l_v44 u_v44 hc45 => ⟨_, rfl, ?_⟩))
          show mm_W d mmX12_years 88 [some (.ref 137), some (.int (Int32.ofInt a1)), some (.int (Int32.ofInt a2)), some (.int (Int32.ofInt a3)), some (.int (Int32.ofInt v11)), some (.int (Int32.ofInt v12)), some (.int (Int32.ofInt v38))] [.int (Int32.ofInt v44), .int (Int32.ofInt v11)] (mz_mk g41 x) Q
          replace hE := zf_t1 hE hc45
          refine mm_g 2 (pc1 := 91) (lo1 := [some (.ref 137), some (.int (Int32.ofInt a1)), some (.int (Int32.ofInt a2)), some (.int (Int32.ofInt a3)), some (.int (Int32.ofInt v11)), some (.int (Int32.ofInt v12)), some (.int (Int32.ofInt v38))]) (st1 := [.int (Int32.ofInt (-1)), .int (Int32.ofInt v38), .int (Int32.ofInt v44), .int (Int32.ofInt v11)]) (H1 := mz_mk g41 x) rfl ?_
          refine mz_ixor rfl (fun v46 e_v46 hwv46 => ?_)
          have l_v46 := hwv46.1
          have u_v46 := hwv46.2
          replace hE := zf_tr hE (zf_le e_v46.symm)
          refine mz_iand rfl (fun v47 e_v47 hwv47 => ?_)
          have b_v47 : 0 ≤ v47 ∧ v47 ≤ 63 := by rw [e_v47]; exact mz_and_l (by omega) (by omega) (mz_rg l_v46 u_v46)
          have l_v47 := b_v47.1
          have u_v47 := b_v47.2
          have w_v47 : v47 ≤ v44 := by rw [e_v47]; exact (mz_and_l (hi := v44) (by omega) (Int.le_refl _) (mz_rg l_v46 u_v46) (by omega)).2
          replace hE := zf_tr hE (zf_le e_v47.symm)
          refine mz_cs rfl mt_12_484 (by decide) rfl (Nat.le_of_ble_eq_true rfl) (by omega) (f_X12_bitsOf (by omega) hx hIg41 (by omega) (by omega) (fun v48 l_v48 u_v48 hc49 => ⟨_, rfl, ?_⟩))
          show mm_W d mmX12_years 96 [some (.ref 137), some (.int (Int32.ofInt a1)), some (.int (Int32.ofInt a2)), some (.int (Int32.ofInt a3)), some (.int (Int32.ofInt v11)), some (.int (Int32.ofInt v12)), some (.int (Int32.ofInt v38))] [.int (Int32.ofInt v48), .int (Int32.ofInt v11)] (mz_mk g41 x) Q
          replace hE := zf_t1 hE hc49
          refine mz_iadd_w rfl (fun v50 e_v50 hwv50 => ?_)
          have l_v50 := hwv50.1
          have u_v50 := hwv50.2
          replace hE := zf_tr hE (zf_le e_v50.symm)
          refine mm_g 1 (pc1 := 99) (lo1 := [some (.ref 137), some (.int (Int32.ofInt a1)), some (.int (Int32.ofInt a2)), some (.int (Int32.ofInt a3)), some (.int (Int32.ofInt v50)), some (.int (Int32.ofInt v12)), some (.int (Int32.ofInt v38))]) (st1 := []) (H1 := mz_mk g41 x) rfl ?_
          refine mz_iincR (v := v12) (lo2 := [some (.ref 137), some (.int (Int32.ofInt a1)), some (.int (Int32.ofInt a2)), some (.int (Int32.ofInt a3)), some (.int (Int32.ofInt v50)), some (.int (Int32.ofInt (v12 + 1))), some (.int (Int32.ofInt v38))]) rfl rfl rfl (Nat.le_of_ble_eq_true rfl) rfl ?_
          refine mz_gt (tgt := 61) rfl rfl ?_
          exact ih15 ((60 - (v12 + 1)).toNat) (by omega) v50 (v12 + 1) (some (.int (Int32.ofInt v38))) g41 rfl (by omega) (by omega) (by omega) (by omega) (mz_nl_i _) hIg41 (fun k j hk => ((hfg41 k j (fun h => hk (Or.elim h (fun h => (Or.inr (Or.inr (Or.inr (Or.inr (Or.inr (Or.inl h))))))) (fun h => (Or.elim h (fun h => (Or.inr (Or.inr (Or.inr (Or.inr (Or.inr (Or.inr (Or.inl h)))))))) (fun h => (Or.elim h (fun h => (Or.inr (Or.inr (Or.inr (Or.inr (Or.inr (Or.inr (Or.inr (Or.inl h))))))))) (fun h => (Or.elim h (fun h => (Or.inr (Or.inr (Or.inr (Or.inr (Or.inr (Or.inr (Or.inr (Or.inr (Or.inl h)))))))))) (fun h => (Or.elim h (fun h => (Or.inr (Or.inr (Or.inr (Or.inr (Or.inr (Or.inr (Or.inr (Or.inr (Or.inr (Or.inl h))))))))))) (fun h => (Or.elim h (fun h => (Or.inr (Or.inr (Or.inr (Or.inr (Or.inr (Or.inr (Or.inr (Or.inr (Or.inr (Or.inr (Or.inl h)))))))))))) (fun h => (Or.elim h (fun h => (Or.inr (Or.inr (Or.inr (Or.inr (Or.inr (Or.inr (Or.inr (Or.inr (Or.inr (Or.inr (Or.inr (Or.inl h))))))))))))) (fun h => (Or.elim h (fun h => (Or.inr (Or.inr (Or.inr (Or.inr (Or.inr (Or.inr (Or.inr (Or.inr (Or.inr (Or.inr (Or.inr (Or.inr (Or.inl h)))))))))))))) (fun h => (Or.elim h (fun h => (Or.inr (Or.inr (Or.inl h)))) (fun h => (Or.inr (Or.inr (Or.inr (Or.inr (Or.inr (Or.inr (Or.inr (Or.inr (Or.inr (Or.inr (Or.inr (Or.inr (Or.inr h))))))))))))))))))))))))))))))))).trans ((hfg36 k j (fun h => hk (Or.elim h (fun h => (Or.inl h)) (fun h => (Or.elim h (fun h => (Or.inr (Or.inl h))) (fun h => (Or.elim h (fun h => (Or.inr (Or.inr (Or.inl h)))) (fun h => (Or.elim h (fun h => (Or.inr (Or.inr (Or.inr (Or.inl h))))) (fun h => (Or.inr (Or.inr (Or.inr (Or.inr (Or.inl h))))))))))))))).trans (hfg14 k j (fun h => hk (Or.elim h (fun h => (Or.inl h)) (fun h => (Or.elim h (fun h => (Or.inr (Or.inl h))) (fun h => (Or.elim h (fun h => (Or.inr (Or.inr (Or.inl h)))) (fun h => (Or.elim h (fun h => (Or.inr (Or.inr (Or.inr (Or.inl h))))) (fun h => (Or.elim h (fun h => (Or.inr (Or.inr (Or.inr (Or.inr (Or.inl h)))))) (fun h => (Or.elim h (fun h => (Or.inr (Or.inr (Or.inr (Or.inr (Or.inr (Or.inl h))))))) (fun h => (Or.elim h (fun h => (Or.inr (Or.inr (Or.inr (Or.inr (Or.inr (Or.inr (Or.inl h)))))))) (fun h => (Or.elim h (fun h => (Or.inr (Or.inr (Or.inr (Or.inr (Or.inr (Or.inr (Or.inr (Or.inl h))))))))) (fun h => (Or.elim h (fun h => (Or.inr (Or.inr (Or.inr (Or.inr (Or.inr (Or.inr (Or.inr (Or.inr (Or.inl h)))))))))) (fun h => (Or.elim h (fun h => (Or.inr (Or.inr (Or.inr (Or.inr (Or.inr (Or.inr (Or.inr (Or.inr (Or.inr (Or.inl h))))))))))) (fun h => (Or.elim h (fun h => (Or.inr (Or.inr (Or.inr (Or.inr (Or.inr (Or.inr (Or.inr (Or.inr (Or.inr (Or.inr (Or.inl h)))))))))))) (fun h => (Or.elim h (fun h => (Or.inr (Or.inr (Or.inr (Or.inr (Or.inr (Or.inr (Or.inr (Or.inr (Or.inr (Or.inr (Or.inr (Or.inl h))))))))))))) (fun h => (Or.elim h (fun h => (Or.inr (Or.inr (Or.inr (Or.inr (Or.inr (Or.inr (Or.inr (Or.inr (Or.inr (Or.inr (Or.inr (Or.inr (Or.inl h)))))))))))))) (fun h => (Or.inr (Or.inr (Or.inr (Or.inr (Or.inr (Or.inr (Or.inr (Or.inr (Or.inr (Or.inr (Or.inr (Or.inr (Or.inr h)))))))))))))))))))))))))))))))))))))))))))) (by omega) ⟨fj19, Nat.lt_of_lt_of_le (show ((60 - (v12 + 1)).toNat) < n16 from (by omega)) fn20, hE⟩
      exact L17 _ 0 0 none g10 rfl (by decide) (by decide) (by decide) (by decide) mz_nl_n hIg10 (fun _ _ _ => rfl) (by have h9 := (show g10 137 30 = (g 137 30) from ((hug10.2 137 30 (fun h => absurd h.2 (by decide))).trans ((hfg8 137 30 (fun h => (absurd (show 137 = 162 from h) (by decide)))).trans ((hug1.2 137 30 (fun h => absurd h.2 (by decide))).trans rfl)))); omega) ⟨3000000000, by omega, hE⟩
    · skip
      replace hE := zf_ip hE c32_7
      refine mm_g 2 (pc1 := 37) (lo1 := [some (.ref 137), some (.int (Int32.ofInt a1)), some (.int (Int32.ofInt a2)), some (.int (Int32.ofInt a3)), none, none, none]) (st1 := [.int (Int32.ofInt 2), .ref 137]) (H1 := mz_mk g1 x) rfl ?_
      refine mz_cv rfl mt_12_294 (by decide) (sc_137 _) rfl (Nat.le_of_ble_eq_true rfl) (by omega) (f_X12_fail (by omega) hx hIg1 (by decide) (by decide) (fun v51 g52 hIg52 hfg52 l_v51 u_v51 hc53 => ⟨_, rfl, ?_⟩))
      show mm_W d mmX12_years 40 [some (.ref 137), some (.int (Int32.ofInt a1)), some (.int (Int32.ofInt a2)), some (.int (Int32.ofInt a3)), none, none, none] [.int (Int32.ofInt v51)] (mz_mk g52 x) Q
      replace hE := zf_t2 hE hc53
      exact mm_rt rfl rfl (hQ _ _ hIg52 (fun k j hk => ((hfg52 k j (fun h => hk (Or.inl h))).trans (hug1.2 k j (fun h => hk (Or.inl h))))) (by omega) (by omega) (by have h9 := (show g52 137 30 = (g 137 30) from ((hfg52 137 30 (fun h => (absurd (show (137 = 137 ∧ 30 = 2) from h) (by decide)))).trans ((hug1.2 137 30 (fun h => absurd h.2 (by decide))).trans rfl))); omega) hE)
  · skip
    replace hE := zf_ip hE c14_4
    refine mm_g 2 (pc1 := 19) (lo1 := [some (.ref 137), some (.int (Int32.ofInt a1)), some (.int (Int32.ofInt a2)), some (.int (Int32.ofInt a3)), none, none, none]) (st1 := [.int (Int32.ofInt 1), .ref 137]) (H1 := mz_mk g1 x) rfl ?_
    refine mz_cv rfl mt_12_294 (by decide) (sc_137 _) rfl (Nat.le_of_ble_eq_true rfl) (by omega) (f_X12_fail (by omega) hx hIg1 (by decide) (by decide) (fun v54 g55 hIg55 hfg55 l_v54 u_v54 hc56 => ⟨_, rfl, ?_⟩))
    show mm_W d mmX12_years 22 [some (.ref 137), some (.int (Int32.ofInt a1)), some (.int (Int32.ofInt a2)), some (.int (Int32.ofInt a3)), none, none, none] [.int (Int32.ofInt v54)] (mz_mk g55 x) Q
    replace hE := zf_t2 hE hc56
    exact mm_rt rfl rfl (hQ _ _ hIg55 (fun k j hk => ((hfg55 k j (fun h => hk (Or.inl h))).trans (hug1.2 k j (fun h => hk (Or.inl h))))) (by omega) (by omega) (by have h9 := (show g55 137 30 = (g 137 30) from ((hfg55 137 30 (fun h => (absurd (show (137 = 137 ∧ 30 = 2) from h) (by decide)))).trans ((hug1.2 137 30 (fun h => absurd h.2 (by decide))).trans rfl))); omega) hE)
def fl_X12_copyTo_2 (x : mm_X) (q1 : Nat) (q2 : Nat) : Nat → Nat → Prop := fun k j => k = q1
def fw_X12_copyTo (x : mm_X) (q1 : Nat) (q2 : Nat) : Nat → Nat → Prop := fun k j => k = q1
theorem f_X12_copyTo {d : Nat} (hd : 1 ≤ d) {x : mm_X} (hx : mk_x x) {g : mz_G} (hI : mz_inv g) {q1 n_q1 : Nat} (h_q1 : mm_SH x.2.2.2.1 q1 = (100, n_q1)) (m_q1 : n_q1 ≤ 2048) {q2 n_q2 : Nat} (h_q2 : mm_SH x.2.2.2.1 q2 = (100, n_q2)) (m_q2 : n_q2 ≤ 2048) (p1 : ∀ j, mz_bd q1 j = mz_bd q2 j) (p2 : n_q1 = n_q2) {Q : (Option Value ⊕ Nat) → mm_H → Prop} (hQ : ∀ (g1 : mz_G), mz_inv g1 → mz_fr (fw_X12_copyTo x q1 q2) g g1 → zf_E (zF_X12_copyTo q1 n_q1 q2 n_q2 g) (g1) → Q (.inl none) (mz_mk g1 x)) : mm_C d 290 [.ref q1, .ref q2] (mz_mk g x) Q := by
  refine ⟨mmX12_copyTo, [some (.ref q1), some (.ref q2), none], rfl, rfl, ?_⟩
  have hE : zf_E (zF_X12_copyTo q1 n_q1 q2 n_q2 g) (zF_X12_copyTo q1 n_q1 q2 n_q2 g) := zf_rf
  refine mm_g 2 (pc1 := 2) (lo1 := [some (.ref q1), some (.ref q2), some (.int (Int32.ofInt 0))]) (st1 := []) (H1 := mz_mk g x) rfl ?_
  have L5 : ∀ n4 : Nat, ∀ (v1 : Int) (g2 : mz_G), (2048 - v1).toNat = n4 → 0 ≤ v1 → v1 ≤ 2048 → mz_inv g2 → mz_fr (fl_X12_copyTo_2 x q1 q2) g g2 → (∃ fk : Nat, (2048 - v1).toNat < fk ∧ zf_E (zF_X12_copyTo q1 n_q1 q2 n_q2 g) (zL_X12_copyTo_2 q1 n_q1 q2 n_q2 fk v1 g2)) → mm_W d mmX12_copyTo 2 [some (.ref q1), some (.ref q2), some (.int (Int32.ofInt v1))] [] (mz_mk g2 x) Q := by
    intro n4
    induction n4 using Nat.strongRecOn with
    | ind n4 ih3 =>
    intro v1 g2 hmn4 l_v1 u_v1 hIg2 hfg2 hF
    obtain ⟨fk, fl, hE⟩ := hF
    obtain ⟨fj6, rfl⟩ : ∃ fj, fk = fj + 1 := ⟨fk - 1, by omega⟩
    have fn7 : n4 ≤ fj6 := by omega
    replace hE := zf_tr hE zL_X12_copyTo_2_s
    refine mm_g 2 (pc1 := 4) (lo1 := [some (.ref q1), some (.ref q2), some (.int (Int32.ofInt v1))]) (st1 := [.ref q1, .int (Int32.ofInt v1)]) (H1 := mz_mk g2 x) rfl ?_
    refine mz_al rfl h_q1 (by decide) ?_
    refine mz_ic_ge (tgt := 20) rfl rfl (mz_rg l_v1 u_v1) ⟨by omega, by omega⟩ (fun c5_7 => ?_) (fun c5_7 => ?_)
    · skip
      replace hE := zf_nl hE c5_7
      exact mm_rt rfl rfl (hQ _ hIg2 (fun k j hk => (hfg2 k j (fun h => hk h))) hE)
    · skip
      replace hE := zf_ip hE c5_7
      refine mm_g 4 (pc1 := 12) (lo1 := [some (.ref q1), some (.ref q2), some (.int (Int32.ofInt v1))]) (st1 := [.int (Int32.ofInt v1), .ref q2, .int (Int32.ofInt v1), .ref q1]) (H1 := mz_mk g2 x) rfl ?_
      refine mz_aI rfl h_q2 (by omega) (by omega) (by omega) hIg2 (Prod.eta _).symm (fun v8 e_v8 l_v8 u_v8 => ?_)
      replace hE := zf_tr hE (zf_le e_v8)
      refine mz_sI rfl h_q1 (by omega) (by omega) (by omega) hIg2 ((p1 _).trans (Prod.eta _).symm) (by omega) (by omega) (fun g9 hIg9 hug9 => ?_)
      replace hE := zf_tr hE (zf_lg hug9)
      refine mz_iincR (v := v1) (lo2 := [some (.ref q1), some (.ref q2), some (.int (Int32.ofInt (v1 + 1)))]) rfl rfl rfl (Nat.le_of_ble_eq_true rfl) rfl ?_
      refine mz_gt (tgt := 2) rfl rfl ?_
      exact ih3 ((2048 - (v1 + 1)).toNat) (by omega) (v1 + 1) g9 rfl (by omega) (by omega) hIg9 (fun k j hk => ((hug9.2 k j (fun h => hk h.1)).trans (hfg2 k j (fun h => hk h)))) ⟨fj6, Nat.lt_of_lt_of_le (show ((2048 - (v1 + 1)).toNat) < n4 from (by omega)) fn7, hE⟩
  exact L5 _ 0 g rfl (by decide) (by decide) hI (fun _ _ _ => rfl) ⟨3000000000, by omega, hE⟩
def fw_X12_image (x : mm_X) : Nat → Nat → Prop := fun k j => (k = 137 ∧ j = 2) ∨ (k = 137 ∧ j = 53) ∨ (k = 137 ∧ j = 54) ∨ (k = 137 ∧ j = 55) ∨ k = 173 ∨ k = 174 ∨ k = 175 ∨ k = 176 ∨ k = 177 ∨ k = 178
theorem f_X12_image {d : Nat} (hd : 2 ≤ d) {x : mm_X} (hx : mk_x x) {g : mz_G} (hI : mz_inv g) (p1 : mz_pv g) (p2 : g 137 30 ≤ 999) {Q : (Option Value ⊕ Nat) → mm_H → Prop} (hQ : ∀ (g1 : mz_G), mz_inv g1 → mz_fr (fw_X12_image x) g g1 → (g1 137 30 ≤ 999) → zf_E (zF_X12_image g) (g1) → Q (.inl none) (mz_mk g1 x)) : mm_C d 291 [.ref 137] (mz_mk g x) Q := by
  refine ⟨mmX12_image, [some (.ref 137)], rfl, rfl, ?_⟩
  have bz0 := mz_rd hI bd_137_30
  have hpv := p1
  have hE : zf_E (zF_X12_image g) (zF_X12_image g) := zf_rf
  refine mm_g 2 (pc1 := 2) (lo1 := [some (.ref 137)]) (st1 := [.int (Int32.ofInt 0), .ref 137]) (H1 := mz_mk g x) rfl ?_
  refine mz_pI rfl fd_12_154 (sc_137 _) hI bd_137_2 (by omega) (by omega) (fun g1 hIg1 hug1 => ?_)
  replace hE := zf_tr hE (zf_lg hug1)
  refine mm_g 2 (pc1 := 7) (lo1 := [some (.ref 137)]) (st1 := [.int (Int32.ofInt 1), .ref 137]) (H1 := mz_mk g1 x) rfl ?_
  refine mz_pZ rfl fd_12_316 (sc_137 _) (by decide) hIg1 bd_137_53 (by omega) (by omega) (fun g2 hIg2 hug2 => ?_)
  replace hE := zf_tr hE (zf_lg hug2)
  refine mm_g 2 (pc1 := 12) (lo1 := [some (.ref 137)]) (st1 := [.ref 137, .ref 137]) (H1 := mz_mk g2 x) rfl ?_
  refine mz_gI rfl fd_12_310 (by decide) (sc_137 _) hIg2 bd_137_31 (fun v3 e_v3 l_v3 u_v3 => ?_)
  replace hE := zf_tr hE (zf_le e_v3)
  refine mz_pI rfl fd_12_505 (sc_137 _) hIg2 bd_137_54 (by omega) (by omega) (fun g4 hIg4 hug4 => ?_)
  replace hE := zf_tr hE (zf_lg hug4)
  refine mm_g 2 (pc1 := 20) (lo1 := [some (.ref 137)]) (st1 := [.ref 137, .ref 137]) (H1 := mz_mk g4 x) rfl ?_
  refine mz_gI rfl fd_12_313 (by decide) (sc_137 _) hIg4 bd_137_32 (fun v5 e_v5 l_v5 u_v5 => ?_)
  replace hE := zf_tr hE (zf_le e_v5)
  refine mz_pI rfl fd_12_508 (sc_137 _) hIg4 bd_137_55 (by omega) (by omega) (fun g6 hIg6 hug6 => ?_)
  replace hE := zf_tr hE (zf_lg hug6)
  refine mm_g 2 (pc1 := 28) (lo1 := [some (.ref 137)]) (st1 := [.ref 137, .ref 137]) (H1 := mz_mk g6 x) rfl ?_
  refine mz_fgR (v := 173) rfl fd_12_136 (by decide) (sc_137 _) (rf_137_56 _ _ _) ?_
  refine mm_g 1 (pc1 := 32) (lo1 := [some (.ref 137)]) (st1 := [.int (Int32.ofInt 0), .ref 173, .ref 137]) (H1 := mz_mk g6 x) rfl ?_
  refine mz_cv rfl mt_12_397 (by decide) (sc_137 _) rfl (Nat.le_of_ble_eq_true rfl) (by omega) (f_X12_store (by omega) hx hIg6 rwp_173 (by decide) (by decide) (by omega) (by omega) (by have h9 := (show g6 137 30 = (g 137 30) from ((hug6.2 137 30 (fun h => absurd h.2 (by decide))).trans ((hug4.2 137 30 (fun h => absurd h.2 (by decide))).trans ((hug2.2 137 30 (fun h => absurd h.2 (by decide))).trans ((hug1.2 137 30 (fun h => absurd h.2 (by decide))).trans rfl))))); omega) (fun g7 hIg7 hfg7 hc8 => ⟨_, rfl, ?_⟩))
  show mm_W d mmX12_image 35 [some (.ref 137)] [] (mz_mk g7 x) Q
  replace hE := zf_t1 hE hc8
  refine mm_g 1 (pc1 := 36) (lo1 := [some (.ref 137)]) (st1 := [.ref 137]) (H1 := mz_mk g7 x) rfl ?_
  refine mz_fgR (v := 174) rfl fd_12_139 (by decide) (sc_137 _) (rf_137_57 _ _ _) ?_
  refine mm_g 1 (pc1 := 40) (lo1 := [some (.ref 137)]) (st1 := [.ref 137, .ref 174]) (H1 := mz_mk g7 x) rfl ?_
  refine mz_fgR (v := 156) rfl fd_12_85 (by decide) (sc_137 _) (rf_137_29 _ _ _) ?_
  refine mz_cs rfl mt_12_511 (by decide) rfl (Nat.le_of_ble_eq_true rfl) (by omega) (f_X12_copyTo (by omega) hx hIg7 (sh_174 _) (by decide) (sh_156 _) (by decide) (fun _ => rfl) (by omega) (fun g9 hIg9 hfg9 hc10 => ⟨_, rfl, ?_⟩))
  show mm_W d mmX12_image 46 [some (.ref 137)] [] (mz_mk g9 x) Q
  replace hE := zf_t1 hE hc10
  refine mm_g 1 (pc1 := 47) (lo1 := [some (.ref 137)]) (st1 := [.ref 137]) (H1 := mz_mk g9 x) rfl ?_
  refine mz_fgR (v := 175) rfl fd_12_142 (by decide) (sc_137 _) (rf_137_58 _ _ _) ?_
  refine mm_g 1 (pc1 := 51) (lo1 := [some (.ref 137)]) (st1 := [.ref 137, .ref 175]) (H1 := mz_mk g9 x) rfl ?_
  refine mz_fgR (v := 166) rfl fd_12_115 (by decide) (sc_137 _) (rf_137_44 _ _ _) ?_
  refine mz_cs rfl mt_12_511 (by decide) rfl (Nat.le_of_ble_eq_true rfl) (by omega) (f_X12_copyTo (by omega) hx hIg9 (sh_175 _) (by decide) (sh_166 _) (by decide) (fun _ => rfl) (by omega) (fun g11 hIg11 hfg11 hc12 => ⟨_, rfl, ?_⟩))
  show mm_W d mmX12_image 57 [some (.ref 137)] [] (mz_mk g11 x) Q
  replace hE := zf_t1 hE hc12
  refine mm_g 1 (pc1 := 58) (lo1 := [some (.ref 137)]) (st1 := [.ref 137]) (H1 := mz_mk g11 x) rfl ?_
  refine mz_fgR (v := 176) rfl fd_12_145 (by decide) (sc_137 _) (rf_137_59 _ _ _) ?_
  refine mm_g 1 (pc1 := 62) (lo1 := [some (.ref 137)]) (st1 := [.ref 137, .ref 176]) (H1 := mz_mk g11 x) rfl ?_
  refine mz_fgR (v := 167) rfl fd_12_118 (by decide) (sc_137 _) (rf_137_45 _ _ _) ?_
  refine mz_cs rfl mt_12_511 (by decide) rfl (Nat.le_of_ble_eq_true rfl) (by omega) (f_X12_copyTo (by omega) hx hIg11 (sh_176 _) (by decide) (sh_167 _) (by decide) (fun _ => rfl) (by omega) (fun g13 hIg13 hfg13 hc14 => ⟨_, rfl, ?_⟩))
  show mm_W d mmX12_image 68 [some (.ref 137)] [] (mz_mk g13 x) Q
  replace hE := zf_t1 hE hc14
  refine mm_g 1 (pc1 := 69) (lo1 := [some (.ref 137)]) (st1 := [.ref 137]) (H1 := mz_mk g13 x) rfl ?_
  refine mz_fgR (v := 177) rfl fd_12_148 (by decide) (sc_137 _) (rf_137_60 _ _ _) ?_
  refine mm_g 1 (pc1 := 73) (lo1 := [some (.ref 137)]) (st1 := [.ref 137, .ref 177]) (H1 := mz_mk g13 x) rfl ?_
  refine mz_fgR (v := 168) rfl fd_12_121 (by decide) (sc_137 _) (rf_137_46 _ _ _) ?_
  refine mz_cs rfl mt_12_511 (by decide) rfl (Nat.le_of_ble_eq_true rfl) (by omega) (f_X12_copyTo (by omega) hx hIg13 (sh_177 _) (by decide) (sh_168 _) (by decide) (fun _ => rfl) (by omega) (fun g15 hIg15 hfg15 hc16 => ⟨_, rfl, ?_⟩))
  show mm_W d mmX12_image 79 [some (.ref 137)] [] (mz_mk g15 x) Q
  replace hE := zf_t1 hE hc16
  refine mm_g 1 (pc1 := 80) (lo1 := [some (.ref 137)]) (st1 := [.ref 137]) (H1 := mz_mk g15 x) rfl ?_
  refine mz_fgR (v := 178) rfl fd_12_151 (by decide) (sc_137 _) (rf_137_61 _ _ _) ?_
  refine mm_g 1 (pc1 := 84) (lo1 := [some (.ref 137)]) (st1 := [.ref 137, .ref 178]) (H1 := mz_mk g15 x) rfl ?_
  refine mz_fgR (v := 150) rfl fd_12_66 (by decide) (sc_137 _) (rf_137_13 _ _ _) ?_
  refine mz_cs rfl mt_12_511 (by decide) rfl (Nat.le_of_ble_eq_true rfl) (by omega) (f_X12_copyTo (by omega) hx hIg15 (sh_178 _) (by decide) (sh_150 _) (by decide) (fun _ => rfl) (by omega) (fun g17 hIg17 hfg17 hc18 => ⟨_, rfl, ?_⟩))
  show mm_W d mmX12_image 90 [some (.ref 137)] [] (mz_mk g17 x) Q
  replace hE := zf_t1 hE hc18
  exact mm_rt rfl rfl (hQ _ hIg17 (fun k j hk => ((hfg17 k j (fun h => hk (Or.inr (Or.inr (Or.inr (Or.inr (Or.inr (Or.inr (Or.inr (Or.inr (Or.inr h))))))))))).trans ((hfg15 k j (fun h => hk (Or.inr (Or.inr (Or.inr (Or.inr (Or.inr (Or.inr (Or.inr (Or.inr (Or.inl h))))))))))).trans ((hfg13 k j (fun h => hk (Or.inr (Or.inr (Or.inr (Or.inr (Or.inr (Or.inr (Or.inr (Or.inl h)))))))))).trans ((hfg11 k j (fun h => hk (Or.inr (Or.inr (Or.inr (Or.inr (Or.inr (Or.inr (Or.inl h))))))))).trans ((hfg9 k j (fun h => hk (Or.inr (Or.inr (Or.inr (Or.inr (Or.inr (Or.inl h)))))))).trans ((hfg7 k j (fun h => hk (Or.inr (Or.inr (Or.inr (Or.inr (Or.inl h))))))).trans ((hug6.2 k j (fun h => hk (Or.inr (Or.inr (Or.inr (Or.inl h)))))).trans ((hug4.2 k j (fun h => hk (Or.inr (Or.inr (Or.inl h))))).trans ((hug2.2 k j (fun h => hk (Or.inr (Or.inl h)))).trans (hug1.2 k j (fun h => hk (Or.inl h))))))))))))) (by have h9 := (show g17 137 30 = (g 137 30) from ((hfg17 137 30 (fun h => (absurd (show 137 = 178 from h) (by decide)))).trans ((hfg15 137 30 (fun h => (absurd (show 137 = 177 from h) (by decide)))).trans ((hfg13 137 30 (fun h => (absurd (show 137 = 176 from h) (by decide)))).trans ((hfg11 137 30 (fun h => (absurd (show 137 = 175 from h) (by decide)))).trans ((hfg9 137 30 (fun h => (absurd (show 137 = 174 from h) (by decide)))).trans ((hfg7 137 30 (fun h => (absurd (show 137 = 173 from h) (by decide)))).trans ((hug6.2 137 30 (fun h => absurd h.2 (by decide))).trans ((hug4.2 137 30 (fun h => absurd h.2 (by decide))).trans ((hug2.2 137 30 (fun h => absurd h.2 (by decide))).trans ((hug1.2 137 30 (fun h => absurd h.2 (by decide))).trans rfl))))))))))); omega) hE)
def fw_X12_restore (x : mm_X) : Nat → Nat → Prop := fun k j => (k = 137 ∧ j = 2) ∨ (k = 137 ∧ j = 31) ∨ (k = 137 ∧ j = 32) ∨ (k = 137 ∧ j = 30) ∨ k = 152 ∨ k = 153 ∨ k = 154 ∨ k = 155 ∨ k = 156 ∨ k = 166 ∨ k = 167 ∨ k = 168 ∨ k = 150
theorem f_X12_restore {d : Nat} (hd : 2 ≤ d) {x : mm_X} (hx : mk_x x) {g : mz_G} (hI : mz_inv g) (p1 : mz_pv g) (p2 : g 137 30 ≤ 999) {Q : (Option Value ⊕ Nat) → mm_H → Prop} (hQ : ∀ (r : Int) (g1 : mz_G), mz_inv g1 → mz_fr (fw_X12_restore x) g g1 → 0 ≤ r → r ≤ 1 → (g1 137 30 ≤ 999) → zf_E (zF_X12_restore g) ((r, g1)) → Q (.inl (some (.int (Int32.ofInt r)))) (mz_mk g1 x)) : mm_C d 292 [.ref 137] (mz_mk g x) Q := by
  refine ⟨mmX12_restore, [some (.ref 137)], rfl, rfl, ?_⟩
  have bz0 := mz_rd hI bd_137_30
  have hpv := p1
  have hE : zf_E (zF_X12_restore g) (zF_X12_restore g) := zf_rf
  refine mm_g 2 (pc1 := 2) (lo1 := [some (.ref 137)]) (st1 := [.int (Int32.ofInt 0), .ref 137]) (H1 := mz_mk g x) rfl ?_
  refine mz_pI rfl fd_12_154 (sc_137 _) hI bd_137_2 (by omega) (by omega) (fun g1 hIg1 hug1 => ?_)
  replace hE := zf_tr hE (zf_lg hug1)
  refine mm_g 1 (pc1 := 6) (lo1 := [some (.ref 137)]) (st1 := [.ref 137]) (H1 := mz_mk g1 x) rfl ?_
  refine mz_gI rfl fd_12_316 (by decide) (sc_137 _) hIg1 bd_137_53 (fun v2 e_v2 l_v2 u_v2 => ?_)
  replace hE := zf_tr hE (zf_le e_v2)
  refine mz_if_ne (tgt := 14) rfl rfl (mz_rg l_v2 u_v2) (fun c9_2 => ?_) (fun c9_2 => ?_)
  · skip
    replace hE := zf_in hE c9_2
    refine mm_g 2 (pc1 := 16) (lo1 := [some (.ref 137)]) (st1 := [.ref 137, .ref 137]) (H1 := mz_mk g1 x) rfl ?_
    refine mz_gI rfl fd_12_505 (by decide) (sc_137 _) hIg1 bd_137_54 (fun v3 e_v3 l_v3 u_v3 => ?_)
    replace hE := zf_tr hE (zf_le e_v3)
    refine mz_pI rfl fd_12_310 (sc_137 _) hIg1 bd_137_31 (by omega) (by omega) (fun g4 hIg4 hug4 => ?_)
    replace hE := zf_tr hE (zf_lg hug4)
    refine mm_g 2 (pc1 := 24) (lo1 := [some (.ref 137)]) (st1 := [.ref 137, .ref 137]) (H1 := mz_mk g4 x) rfl ?_
    refine mz_gI rfl fd_12_508 (by decide) (sc_137 _) hIg4 bd_137_55 (fun v5 e_v5 l_v5 u_v5 => ?_)
    replace hE := zf_tr hE (zf_le e_v5)
    refine mz_pI rfl fd_12_313 (sc_137 _) hIg4 bd_137_32 (by omega) (by omega) (fun g6 hIg6 hug6 => ?_)
    replace hE := zf_tr hE (zf_lg hug6)
    refine mm_g 2 (pc1 := 32) (lo1 := [some (.ref 137)]) (st1 := [.ref 137, .ref 137]) (H1 := mz_mk g6 x) rfl ?_
    refine mz_fgR (v := 173) rfl fd_12_136 (by decide) (sc_137 _) (rf_137_56 _ _ _) ?_
    refine mm_g 1 (pc1 := 36) (lo1 := [some (.ref 137)]) (st1 := [.int (Int32.ofInt 0), .ref 173, .ref 137]) (H1 := mz_mk g6 x) rfl ?_
    refine mz_cv rfl mt_12_421 (by decide) (sc_137 _) rfl (Nat.le_of_ble_eq_true rfl) (by omega) (f_X12_recall (by omega) hx hIg6 rwp_173 (by decide) (by decide) (by omega) (by omega) (fun g7 hIg7 hfg7 hp8 hc9 => ⟨_, rfl, ?_⟩))
    show mm_W d mmX12_restore 39 [some (.ref 137)] [] (mz_mk g7 x) Q
    replace hE := zf_t1 hE hc9
    refine mm_g 1 (pc1 := 40) (lo1 := [some (.ref 137)]) (st1 := [.ref 137]) (H1 := mz_mk g7 x) rfl ?_
    refine mz_fgR (v := 156) rfl fd_12_85 (by decide) (sc_137 _) (rf_137_29 _ _ _) ?_
    refine mm_g 1 (pc1 := 44) (lo1 := [some (.ref 137)]) (st1 := [.ref 137, .ref 156]) (H1 := mz_mk g7 x) rfl ?_
    refine mz_fgR (v := 174) rfl fd_12_139 (by decide) (sc_137 _) (rf_137_57 _ _ _) ?_
    refine mz_cs rfl mt_12_511 (by decide) rfl (Nat.le_of_ble_eq_true rfl) (by omega) (f_X12_copyTo (by omega) hx hIg7 (sh_156 _) (by decide) (sh_174 _) (by decide) (fun _ => rfl) (by omega) (fun g10 hIg10 hfg10 hc11 => ⟨_, rfl, ?_⟩))
    show mm_W d mmX12_restore 50 [some (.ref 137)] [] (mz_mk g10 x) Q
    replace hE := zf_t1 hE hc11
    refine mm_g 1 (pc1 := 51) (lo1 := [some (.ref 137)]) (st1 := [.ref 137]) (H1 := mz_mk g10 x) rfl ?_
    refine mz_fgR (v := 166) rfl fd_12_115 (by decide) (sc_137 _) (rf_137_44 _ _ _) ?_
    refine mm_g 1 (pc1 := 55) (lo1 := [some (.ref 137)]) (st1 := [.ref 137, .ref 166]) (H1 := mz_mk g10 x) rfl ?_
    refine mz_fgR (v := 175) rfl fd_12_142 (by decide) (sc_137 _) (rf_137_58 _ _ _) ?_
    refine mz_cs rfl mt_12_511 (by decide) rfl (Nat.le_of_ble_eq_true rfl) (by omega) (f_X12_copyTo (by omega) hx hIg10 (sh_166 _) (by decide) (sh_175 _) (by decide) (fun _ => rfl) (by omega) (fun g12 hIg12 hfg12 hc13 => ⟨_, rfl, ?_⟩))
    show mm_W d mmX12_restore 61 [some (.ref 137)] [] (mz_mk g12 x) Q
    replace hE := zf_t1 hE hc13
    refine mm_g 1 (pc1 := 62) (lo1 := [some (.ref 137)]) (st1 := [.ref 137]) (H1 := mz_mk g12 x) rfl ?_
    refine mz_fgR (v := 167) rfl fd_12_118 (by decide) (sc_137 _) (rf_137_45 _ _ _) ?_
    refine mm_g 1 (pc1 := 66) (lo1 := [some (.ref 137)]) (st1 := [.ref 137, .ref 167]) (H1 := mz_mk g12 x) rfl ?_
    refine mz_fgR (v := 176) rfl fd_12_145 (by decide) (sc_137 _) (rf_137_59 _ _ _) ?_
    refine mz_cs rfl mt_12_511 (by decide) rfl (Nat.le_of_ble_eq_true rfl) (by omega) (f_X12_copyTo (by omega) hx hIg12 (sh_167 _) (by decide) (sh_176 _) (by decide) (fun _ => rfl) (by omega) (fun g14 hIg14 hfg14 hc15 => ⟨_, rfl, ?_⟩))
    show mm_W d mmX12_restore 72 [some (.ref 137)] [] (mz_mk g14 x) Q
    replace hE := zf_t1 hE hc15
    refine mm_g 1 (pc1 := 73) (lo1 := [some (.ref 137)]) (st1 := [.ref 137]) (H1 := mz_mk g14 x) rfl ?_
    refine mz_fgR (v := 168) rfl fd_12_121 (by decide) (sc_137 _) (rf_137_46 _ _ _) ?_
    refine mm_g 1 (pc1 := 77) (lo1 := [some (.ref 137)]) (st1 := [.ref 137, .ref 168]) (H1 := mz_mk g14 x) rfl ?_
    refine mz_fgR (v := 177) rfl fd_12_148 (by decide) (sc_137 _) (rf_137_60 _ _ _) ?_
    refine mz_cs rfl mt_12_511 (by decide) rfl (Nat.le_of_ble_eq_true rfl) (by omega) (f_X12_copyTo (by omega) hx hIg14 (sh_168 _) (by decide) (sh_177 _) (by decide) (fun _ => rfl) (by omega) (fun g16 hIg16 hfg16 hc17 => ⟨_, rfl, ?_⟩))
    show mm_W d mmX12_restore 83 [some (.ref 137)] [] (mz_mk g16 x) Q
    replace hE := zf_t1 hE hc17
    refine mm_g 1 (pc1 := 84) (lo1 := [some (.ref 137)]) (st1 := [.ref 137]) (H1 := mz_mk g16 x) rfl ?_
    refine mz_fgR (v := 150) rfl fd_12_66 (by decide) (sc_137 _) (rf_137_13 _ _ _) ?_
    refine mm_g 1 (pc1 := 88) (lo1 := [some (.ref 137)]) (st1 := [.ref 137, .ref 150]) (H1 := mz_mk g16 x) rfl ?_
    refine mz_fgR (v := 178) rfl fd_12_151 (by decide) (sc_137 _) (rf_137_61 _ _ _) ?_
    refine mz_cs rfl mt_12_511 (by decide) rfl (Nat.le_of_ble_eq_true rfl) (by omega) (f_X12_copyTo (by omega) hx hIg16 (sh_150 _) (by decide) (sh_178 _) (by decide) (fun _ => rfl) (by omega) (fun g18 hIg18 hfg18 hc19 => ⟨_, rfl, ?_⟩))
    show mm_W d mmX12_restore 94 [some (.ref 137)] [] (mz_mk g18 x) Q
    replace hE := zf_t1 hE hc19
    refine mm_g 1 (pc1 := 95) (lo1 := [some (.ref 137)]) (st1 := [.int (Int32.ofInt 1)]) (H1 := mz_mk g18 x) rfl ?_
    exact mz_rtZ rfl (by decide) (by omega) (hQ _ _ hIg18 (fun k j hk => ((hfg18 k j (fun h => hk (Or.inr (Or.inr (Or.inr (Or.inr (Or.inr (Or.inr (Or.inr (Or.inr (Or.inr (Or.inr (Or.inr (Or.inr h)))))))))))))).trans ((hfg16 k j (fun h => hk (Or.inr (Or.inr (Or.inr (Or.inr (Or.inr (Or.inr (Or.inr (Or.inr (Or.inr (Or.inr (Or.inr (Or.inl h)))))))))))))).trans ((hfg14 k j (fun h => hk (Or.inr (Or.inr (Or.inr (Or.inr (Or.inr (Or.inr (Or.inr (Or.inr (Or.inr (Or.inr (Or.inl h))))))))))))).trans ((hfg12 k j (fun h => hk (Or.inr (Or.inr (Or.inr (Or.inr (Or.inr (Or.inr (Or.inr (Or.inr (Or.inr (Or.inl h)))))))))))).trans ((hfg10 k j (fun h => hk (Or.inr (Or.inr (Or.inr (Or.inr (Or.inr (Or.inr (Or.inr (Or.inr (Or.inl h))))))))))).trans ((hfg7 k j (fun h => hk (Or.elim h (fun h => (Or.inr (Or.inr (Or.inr (Or.inl h))))) (fun h => (Or.elim h (fun h => (Or.inr (Or.inr (Or.inr (Or.inr (Or.inl h)))))) (fun h => (Or.elim h (fun h => (Or.inr (Or.inr (Or.inr (Or.inr (Or.inr (Or.inl h))))))) (fun h => (Or.elim h (fun h => (Or.inr (Or.inr (Or.inr (Or.inr (Or.inr (Or.inr (Or.inl h)))))))) (fun h => (Or.inr (Or.inr (Or.inr (Or.inr (Or.inr (Or.inr (Or.inr (Or.inl h)))))))))))))))))).trans ((hug6.2 k j (fun h => hk (Or.inr (Or.inr (Or.inl h))))).trans ((hug4.2 k j (fun h => hk (Or.inr (Or.inl h)))).trans (hug1.2 k j (fun h => hk (Or.inl h)))))))))))) (by decide) (by decide) (by have h9 := (show g18 137 30 = (g7 137 30) from ((hfg18 137 30 (fun h => (absurd (show 137 = 150 from h) (by decide)))).trans ((hfg16 137 30 (fun h => (absurd (show 137 = 168 from h) (by decide)))).trans ((hfg14 137 30 (fun h => (absurd (show 137 = 167 from h) (by decide)))).trans ((hfg12 137 30 (fun h => (absurd (show 137 = 166 from h) (by decide)))).trans ((hfg10 137 30 (fun h => (absurd (show 137 = 156 from h) (by decide)))).trans rfl)))))); omega) hE)
  · skip
    replace hE := zf_ip hE c9_2
    refine mm_g 1 (pc1 := 13) (lo1 := [some (.ref 137)]) (st1 := [.int (Int32.ofInt 0)]) (H1 := mz_mk g1 x) rfl ?_
    exact mz_rtZ rfl (by decide) (by omega) (hQ _ _ hIg1 (fun k j hk => (hug1.2 k j (fun h => hk (Or.inl h)))) (by decide) (by decide) (by have h9 := (show g1 137 30 = (g 137 30) from ((hug1.2 137 30 (fun h => absurd h.2 (by decide))).trans rfl)); omega) hE)
