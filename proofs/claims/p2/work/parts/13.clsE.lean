/-! method 156: java/lang/Math.max -/
theorem N156 {d : Nat} {a0 : Int32} {a1 : Int32} {h : jv_H} : jv_run (d + 1) 156 [.int a0, .int a1] h = jv_ev (jv_run d) 156 0 [some (.int a0), some (.int a1)] [] h := jv_run_eq (Nat.le_of_ble_eq_true rfl) rfl
theorem D156_0 : decode (jt_code 156) 0 = .ok (.iload_n 0, 1) := by decide +kernel
theorem E156_0 {call : jv_F} {l1 : Option Value} {x : Int32} {st : List Value} {h : jv_H} : jv_ev call 156 0 [some (.int x), l1] st h = jv_ev call 156 1 [some (.int x), l1] (.int x :: st) h := je_iload_n D156_0 rfl rfl
theorem D156_1 : decode (jt_code 156) 1 = .ok (.iload_n 1, 1) := by decide +kernel
theorem E156_1 {call : jv_F} {l0 : Option Value} {x : Int32} {st : List Value} {h : jv_H} : jv_ev call 156 1 [l0, some (.int x)] st h = jv_ev call 156 2 [l0, some (.int x)] (.int x :: st) h := je_iload_n D156_1 rfl rfl
theorem D156_2 : decode (jt_code 156) 2 = .ok (.if_icmp .lt 7, 3) := by decide +kernel
theorem E156_2 {call : jv_F} {l0 l1 : Option Value} {x y : Int32} {st : List Value} {h : jv_H} : jv_ev call 156 2 [l0, l1] (.int y :: .int x :: st) h = if x < y then jv_ev call 156 9 [l0, l1] st h else jv_ev call 156 5 [l0, l1] st h := je_icmp D156_2 (by decide) rfl rfl
theorem D156_5 : decode (jt_code 156) 5 = .ok (.iload_n 0, 1) := by decide +kernel
theorem E156_5 {call : jv_F} {l1 : Option Value} {x : Int32} {st : List Value} {h : jv_H} : jv_ev call 156 5 [some (.int x), l1] st h = jv_ev call 156 6 [some (.int x), l1] (.int x :: st) h := je_iload_n D156_5 rfl rfl
theorem D156_6 : decode (jt_code 156) 6 = .ok (.goto 4, 3) := by decide +kernel
theorem E156_6 {call : jv_F} {l0 l1 : Option Value}  {st : List Value} {h : jv_H} : jv_ev call 156 6 [l0, l1] st h = jv_ev call 156 10 [l0, l1] st h := je_goto D156_6 (by decide)
theorem D156_9 : decode (jt_code 156) 9 = .ok (.iload_n 1, 1) := by decide +kernel
theorem E156_9 {call : jv_F} {l0 : Option Value} {x : Int32} {st : List Value} {h : jv_H} : jv_ev call 156 9 [l0, some (.int x)] st h = jv_ev call 156 10 [l0, some (.int x)] (.int x :: st) h := je_iload_n D156_9 rfl rfl
theorem D156_10 : decode (jt_code 156) 10 = .ok (.ireturn, 1) := by decide +kernel
theorem E156_10 {call : jv_F} {l0 l1 : Option Value} {v : Int32} {h : jv_H} : jv_ev call 156 10 [l0, l1] [.int v] h = some (some (.int v), h) := je_iret (ty := .int) D156_10 rfl rfl rfl
