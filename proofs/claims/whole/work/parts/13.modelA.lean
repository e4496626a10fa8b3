/-! method 1: DrumMachineModel.word48 -/
theorem N1 {d : Nat} {a0 : Int64} {h : jv_H} : jv_run (d + 1) 1 [.long a0] h = jv_ev (jv_run d) 1 0 [some (.long a0), none] [] h := jv_run_eq (Nat.le_of_ble_eq_true rfl) rfl
theorem D1_0 : decode (jt_code 1) 0 = .ok (.lload_n 0, 1) := by decide +kernel
theorem E1_0 {call : jv_F} {l1 : Option Value} {x : Int64} {st : List Value} {h : jv_H} : jv_ev call 1 0 [some (.long x), l1] st h = jv_ev call 1 1 [some (.long x), l1] (.long x :: st) h := je_lload_n D1_0 rfl rfl
theorem D1_1 : decode (jt_code 1) 1 = .ok (.bipush 16, 2) := by decide +kernel
theorem E1_1 {call : jv_F} {l0 l1 : Option Value}  {st : List Value} {h : jv_H} : jv_ev call 1 1 [l0, l1] st h = jv_ev call 1 3 [l0, l1] (.int (nI 16) :: st) h := je_bipush D1_1 rfl (by decide)
theorem D1_3 : decode (jt_code 1) 3 = .ok (.lshl, 1) := by decide +kernel
theorem E1_3 {call : jv_F} {l0 l1 : Option Value} {x : Int64} {y : Int32} {st : List Value} {h : jv_H} : jv_ev call 1 3 [l0, l1] (.int y :: .long x :: st) h = jv_ev call 1 4 [l0, l1] (.long (x <<< (y.toInt64 &&& 63)) :: st) h := je_lshl D1_3 rfl
theorem D1_4 : decode (jt_code 1) 4 = .ok (.bipush 16, 2) := by decide +kernel
theorem E1_4 {call : jv_F} {l0 l1 : Option Value}  {st : List Value} {h : jv_H} : jv_ev call 1 4 [l0, l1] st h = jv_ev call 1 6 [l0, l1] (.int (nI 16) :: st) h := je_bipush D1_4 rfl (by decide)
theorem D1_6 : decode (jt_code 1) 6 = .ok (.lshr, 1) := by decide +kernel
theorem E1_6 {call : jv_F} {l0 l1 : Option Value} {x : Int64} {y : Int32} {st : List Value} {h : jv_H} : jv_ev call 1 6 [l0, l1] (.int y :: .long x :: st) h = jv_ev call 1 7 [l0, l1] (.long (x >>> (y.toInt64 &&& 63)) :: st) h := je_lshr D1_6 rfl
theorem D1_7 : decode (jt_code 1) 7 = .ok (.lreturn, 1) := by decide +kernel
theorem E1_7 {call : jv_F} {l0 l1 : Option Value} {v : Int64} {h : jv_H} : jv_ev call 1 7 [l0, l1] [.long v] h = some (some (.long v), h) := je_lret D1_7 rfl
/-! method 2: DrumMachineModel.word24 -/
theorem N2 {d : Nat} {a0 : Int64} {h : jv_H} : jv_run (d + 1) 2 [.long a0] h = jv_ev (jv_run d) 2 0 [some (.long a0), none] [] h := jv_run_eq (Nat.le_of_ble_eq_true rfl) rfl
theorem D2_0 : decode (jt_code 2) 0 = .ok (.lload_n 0, 1) := by decide +kernel
theorem E2_0 {call : jv_F} {l1 : Option Value} {x : Int64} {st : List Value} {h : jv_H} : jv_ev call 2 0 [some (.long x), l1] st h = jv_ev call 2 1 [some (.long x), l1] (.long x :: st) h := je_lload_n D2_0 rfl rfl
theorem D2_1 : decode (jt_code 2) 1 = .ok (.l2i, 1) := by decide +kernel
theorem E2_1 {call : jv_F} {l0 l1 : Option Value} {x : Int64} {st : List Value} {h : jv_H} : jv_ev call 2 1 [l0, l1] (.long x :: st) h = jv_ev call 2 2 [l0, l1] (.int x.toInt32 :: st) h := je_l2i D2_1 rfl
theorem D2_2 : decode (jt_code 2) 2 = .ok (.bipush 8, 2) := by decide +kernel
theorem E2_2 {call : jv_F} {l0 l1 : Option Value}  {st : List Value} {h : jv_H} : jv_ev call 2 2 [l0, l1] st h = jv_ev call 2 4 [l0, l1] (.int (nI 8) :: st) h := je_bipush D2_2 rfl (by decide)
theorem D2_4 : decode (jt_code 2) 4 = .ok (.ishl, 1) := by decide +kernel
theorem E2_4 {call : jv_F} {l0 l1 : Option Value} {x y : Int32} {st : List Value} {h : jv_H} : jv_ev call 2 4 [l0, l1] (.int y :: .int x :: st) h = jv_ev call 2 5 [l0, l1] (.int (x <<< (y &&& 31)) :: st) h := je_b2 (f := fun x y => x <<< (y &&& 31)) D2_4 rfl (fun _ => rfl)
theorem D2_5 : decode (jt_code 2) 5 = .ok (.bipush 8, 2) := by decide +kernel
theorem E2_5 {call : jv_F} {l0 l1 : Option Value}  {st : List Value} {h : jv_H} : jv_ev call 2 5 [l0, l1] st h = jv_ev call 2 7 [l0, l1] (.int (nI 8) :: st) h := je_bipush D2_5 rfl (by decide)
theorem D2_7 : decode (jt_code 2) 7 = .ok (.ishr, 1) := by decide +kernel
theorem E2_7 {call : jv_F} {l0 l1 : Option Value} {x y : Int32} {st : List Value} {h : jv_H} : jv_ev call 2 7 [l0, l1] (.int y :: .int x :: st) h = jv_ev call 2 8 [l0, l1] (.int (x >>> (y &&& 31)) :: st) h := je_b2 (f := fun x y => x >>> (y &&& 31)) D2_7 rfl (fun _ => rfl)
theorem D2_8 : decode (jt_code 2) 8 = .ok (.ireturn, 1) := by decide +kernel
theorem E2_8 {call : jv_F} {l0 l1 : Option Value} {v : Int32} {h : jv_H} : jv_ev call 2 8 [l0, l1] [.int v] h = some (some (.int v), h) := je_iret (ty := .int) D2_8 rfl rfl rfl
/-! method 3: DrumMachineModel.frames -/
theorem N3 {d : Nat} {b : Nat} {a0 : Int32} {h : jv_H} : jv_run (d + 1) 3 [.ref b, .int a0] h = jv_ev (jv_run d) 3 0 [some (.ref b), some (.int a0)] [] h := jv_run_eq (Nat.le_of_ble_eq_true rfl) rfl
theorem D3_0 : decode (jt_code 3) 0 = .ok (.iload_n 1, 1) := by decide +kernel
theorem E3_0 {call : jv_F} {l0 : Option Value} {x : Int32} {st : List Value} {h : jv_H} : jv_ev call 3 0 [l0, some (.int x)] st h = jv_ev call 3 1 [l0, some (.int x)] (.int x :: st) h := je_iload_n D3_0 rfl rfl
theorem D3_1 : decode (jt_code 3) 1 = .ok (.iconst 3, 1) := by decide +kernel
theorem E3_1 {call : jv_F} {l0 l1 : Option Value}  {st : List Value} {h : jv_H} : jv_ev call 3 1 [l0, l1] st h = jv_ev call 3 2 [l0, l1] (.int (nI 3) :: st) h := je_iconst D3_1 rfl (by decide)
theorem D3_2 : decode (jt_code 3) 2 = .ok (.if_icmp .lt 16, 3) := by decide +kernel
theorem E3_2 {call : jv_F} {l0 l1 : Option Value} {x y : Int32} {st : List Value} {h : jv_H} : jv_ev call 3 2 [l0, l1] (.int y :: .int x :: st) h = if x < y then jv_ev call 3 18 [l0, l1] st h else jv_ev call 3 5 [l0, l1] st h := je_icmp D3_2 (by decide) rfl rfl
theorem D3_5 : decode (jt_code 3) 5 = .ok (.iload_n 1, 1) := by decide +kernel
theorem E3_5 {call : jv_F} {l0 : Option Value} {x : Int32} {st : List Value} {h : jv_H} : jv_ev call 3 5 [l0, some (.int x)] st h = jv_ev call 3 6 [l0, some (.int x)] (.int x :: st) h := je_iload_n D3_5 rfl rfl
theorem D3_6 : decode (jt_code 3) 6 = .ok (.bipush 17, 2) := by decide +kernel
theorem E3_6 {call : jv_F} {l0 l1 : Option Value}  {st : List Value} {h : jv_H} : jv_ev call 3 6 [l0, l1] st h = jv_ev call 3 8 [l0, l1] (.int (nI 17) :: st) h := je_bipush D3_6 rfl (by decide)
theorem D3_8 : decode (jt_code 3) 8 = .ok (.if_icmp .gt 10, 3) := by decide +kernel
theorem E3_8 {call : jv_F} {l0 l1 : Option Value} {x y : Int32} {st : List Value} {h : jv_H} : jv_ev call 3 8 [l0, l1] (.int y :: .int x :: st) h = if y < x then jv_ev call 3 18 [l0, l1] st h else jv_ev call 3 11 [l0, l1] st h := je_icmp D3_8 (by decide) rfl rfl
theorem D3_11 : decode (jt_code 3) 11 = .ok (.aload_n 0, 1) := by decide +kernel
theorem E3_11 {call : jv_F} {l1 : Option Value} {a : Nat} {st : List Value} {h : jv_H} : jv_ev call 3 11 [some (.ref a), l1] st h = jv_ev call 3 12 [some (.ref a), l1] (.ref a :: st) h := je_aload_n (r := some a) D3_11 rfl rfl
theorem D3_12 : decode (jt_code 3) 12 = .ok (.getfield 97, 3) := by decide +kernel
theorem E3_12 {call : jv_F} {l0 l1 : Option Value}  {st : List Value} {m : Nat} {I : Nat → Int32} {A : Nat → Nat → Int32} {L : Nat → Nat → Int64} {rest : Nat → Option jv_C} {z : Nat × Nat} : jv_ev call 3 12 [l0, l1] (.ref m :: st) (jm_H m I A L rest z) = jv_ev call 3 15 [l0, l1] (.int (I 5) :: st) (jm_H m I A L rest z) := je_get D3_12 rfl (by decide) jm_g5
theorem D3_15 : decode (jt_code 3) 15 = .ok (.ifCond .le 5, 3) := by decide +kernel
theorem E3_15 {call : jv_F} {l0 l1 : Option Value} {x : Int32} {st : List Value} {h : jv_H} : jv_ev call 3 15 [l0, l1] (.int x :: st) h = if x ≤ 0 then jv_ev call 3 20 [l0, l1] st h else jv_ev call 3 18 [l0, l1] st h := je_ifc D3_15 (by decide) rfl rfl
theorem D3_18 : decode (jt_code 3) 18 = .ok (.iconst (-1), 1) := by decide +kernel
theorem E3_18 {call : jv_F} {l0 l1 : Option Value}  {st : List Value} {h : jv_H} : jv_ev call 3 18 [l0, l1] st h = jv_ev call 3 19 [l0, l1] (.int (-1) :: st) h := je_iconst D3_18 rfl (by decide)
theorem D3_19 : decode (jt_code 3) 19 = .ok (.ireturn, 1) := by decide +kernel
theorem E3_19 {call : jv_F} {l0 l1 : Option Value} {v : Int32} {h : jv_H} : jv_ev call 3 19 [l0, l1] [.int v] h = some (some (.int v), h) := je_iret (ty := .int) D3_19 rfl rfl rfl
theorem D3_20 : decode (jt_code 3) 20 = .ok (.aload_n 0, 1) := by decide +kernel
theorem E3_20 {call : jv_F} {l1 : Option Value} {a : Nat} {st : List Value} {h : jv_H} : jv_ev call 3 20 [some (.ref a), l1] st h = jv_ev call 3 21 [some (.ref a), l1] (.ref a :: st) h := je_aload_n (r := some a) D3_20 rfl rfl
theorem D3_21 : decode (jt_code 3) 21 = .ok (.iload_n 1, 1) := by decide +kernel
theorem E3_21 {call : jv_F} {l0 : Option Value} {x : Int32} {st : List Value} {h : jv_H} : jv_ev call 3 21 [l0, some (.int x)] st h = jv_ev call 3 22 [l0, some (.int x)] (.int x :: st) h := je_iload_n D3_21 rfl rfl
theorem D3_22 : decode (jt_code 3) 22 = .ok (.putfield 7, 3) := by decide +kernel
theorem E3_22 {call : jv_F} {l0 l1 : Option Value} {v : Int32} {st : List Value} {m : Nat} {I : Nat → Int32} {A : Nat → Nat → Int32} {L : Nat → Nat → Int64} {rest : Nat → Option jv_C} {z : Nat × Nat} : jv_ev call 3 22 [l0, l1] (.int v :: .ref m :: st) (jm_H m I A L rest z) = jv_ev call 3 25 [l0, l1] st (jm_H m (upd I 0 v) A L rest z) := je_put D3_22 rfl (by decide) (by decide) jm_p0
theorem D3_25 : decode (jt_code 3) 25 = .ok (.iload_n 1, 1) := by decide +kernel
theorem E3_25 {call : jv_F} {l0 : Option Value} {x : Int32} {st : List Value} {h : jv_H} : jv_ev call 3 25 [l0, some (.int x)] st h = jv_ev call 3 26 [l0, some (.int x)] (.int x :: st) h := je_iload_n D3_25 rfl rfl
theorem D3_26 : decode (jt_code 3) 26 = .ok (.ireturn, 1) := by decide +kernel
theorem E3_26 {call : jv_F} {l0 l1 : Option Value} {v : Int32} {h : jv_H} : jv_ev call 3 26 [l0, l1] [.int v] h = some (some (.int v), h) := je_iret (ty := .int) D3_26 rfl rfl rfl
/-! method 4: DrumMachineModel.words -/
theorem N4 {d : Nat} {b : Nat} {a0 : Int64} {a1 : Int64} {a2 : Int64} {a3 : Int64} {a4 : Int64} {h : jv_H} : jv_run (d + 1) 4 [.ref b, .long a0, .long a1, .long a2, .long a3, .long a4] h = jv_ev (jv_run d) 4 0 [some (.ref b), some (.long a0), none, some (.long a1), none, some (.long a2), none, some (.long a3), none, some (.long a4), none] [] h := jv_run_eq (Nat.le_of_ble_eq_true rfl) rfl
theorem D4_0 : decode (jt_code 4) 0 = .ok (.aload_n 0, 1) := by decide +kernel
theorem E4_0 {call : jv_F} {l1 l2 l3 l4 l5 l6 l7 l8 l9 l10 : Option Value} {a : Nat} {st : List Value} {h : jv_H} : jv_ev call 4 0 [some (.ref a), l1, l2, l3, l4, l5, l6, l7, l8, l9, l10] st h = jv_ev call 4 1 [some (.ref a), l1, l2, l3, l4, l5, l6, l7, l8, l9, l10] (.ref a :: st) h := je_aload_n (r := some a) D4_0 rfl rfl
theorem D4_1 : decode (jt_code 4) 1 = .ok (.getfield 100, 3) := by decide +kernel
theorem E4_1 {call : jv_F} {l0 l1 l2 l3 l4 l5 l6 l7 l8 l9 l10 : Option Value}  {st : List Value} {m : Nat} {I : Nat → Int32} {A : Nat → Nat → Int32} {L : Nat → Nat → Int64} {rest : Nat → Option jv_C} {z : Nat × Nat} : jv_ev call 4 1 [l0, l1, l2, l3, l4, l5, l6, l7, l8, l9, l10] (.ref m :: st) (jm_H m I A L rest z) = jv_ev call 4 4 [l0, l1, l2, l3, l4, l5, l6, l7, l8, l9, l10] (.int (I 2) :: st) (jm_H m I A L rest z) := je_get D4_1 rfl (by decide) jm_g2
theorem D4_4 : decode (jt_code 4) 4 = .ok (.iconst 5, 1) := by decide +kernel
theorem E4_4 {call : jv_F} {l0 l1 l2 l3 l4 l5 l6 l7 l8 l9 l10 : Option Value}  {st : List Value} {h : jv_H} : jv_ev call 4 4 [l0, l1, l2, l3, l4, l5, l6, l7, l8, l9, l10] st h = jv_ev call 4 5 [l0, l1, l2, l3, l4, l5, l6, l7, l8, l9, l10] (.int (nI 5) :: st) h := je_iconst D4_4 rfl (by decide)
theorem D4_5 : decode (jt_code 4) 5 = .ok (.iadd, 1) := by decide +kernel
theorem E4_5 {call : jv_F} {l0 l1 l2 l3 l4 l5 l6 l7 l8 l9 l10 : Option Value} {x y : Int32} {st : List Value} {h : jv_H} : jv_ev call 4 5 [l0, l1, l2, l3, l4, l5, l6, l7, l8, l9, l10] (.int y :: .int x :: st) h = jv_ev call 4 6 [l0, l1, l2, l3, l4, l5, l6, l7, l8, l9, l10] (.int (x + y) :: st) h := je_b2 (f := fun x y => x + y) D4_5 rfl (fun _ => rfl)
theorem D4_6 : decode (jt_code 4) 6 = .ok (.sipush 1000, 3) := by decide +kernel
theorem E4_6 {call : jv_F} {l0 l1 l2 l3 l4 l5 l6 l7 l8 l9 l10 : Option Value}  {st : List Value} {h : jv_H} : jv_ev call 4 6 [l0, l1, l2, l3, l4, l5, l6, l7, l8, l9, l10] st h = jv_ev call 4 9 [l0, l1, l2, l3, l4, l5, l6, l7, l8, l9, l10] (.int (nI 1000) :: st) h := je_sipush D4_6 rfl (by decide)
theorem D4_9 : decode (jt_code 4) 9 = .ok (.if_icmp .le 5, 3) := by decide +kernel
theorem E4_9 {call : jv_F} {l0 l1 l2 l3 l4 l5 l6 l7 l8 l9 l10 : Option Value} {x y : Int32} {st : List Value} {h : jv_H} : jv_ev call 4 9 [l0, l1, l2, l3, l4, l5, l6, l7, l8, l9, l10] (.int y :: .int x :: st) h = if x ≤ y then jv_ev call 4 14 [l0, l1, l2, l3, l4, l5, l6, l7, l8, l9, l10] st h else jv_ev call 4 12 [l0, l1, l2, l3, l4, l5, l6, l7, l8, l9, l10] st h := je_icmp D4_9 (by decide) rfl rfl
theorem D4_12 : decode (jt_code 4) 12 = .ok (.iconst (-1), 1) := by decide +kernel
theorem E4_12 {call : jv_F} {l0 l1 l2 l3 l4 l5 l6 l7 l8 l9 l10 : Option Value}  {st : List Value} {h : jv_H} : jv_ev call 4 12 [l0, l1, l2, l3, l4, l5, l6, l7, l8, l9, l10] st h = jv_ev call 4 13 [l0, l1, l2, l3, l4, l5, l6, l7, l8, l9, l10] (.int (-1) :: st) h := je_iconst D4_12 rfl (by decide)
theorem D4_13 : decode (jt_code 4) 13 = .ok (.ireturn, 1) := by decide +kernel
theorem E4_13 {call : jv_F} {l0 l1 l2 l3 l4 l5 l6 l7 l8 l9 l10 : Option Value} {v : Int32} {h : jv_H} : jv_ev call 4 13 [l0, l1, l2, l3, l4, l5, l6, l7, l8, l9, l10] [.int v] h = some (some (.int v), h) := je_iret (ty := .int) D4_13 rfl rfl rfl
theorem D4_14 : decode (jt_code 4) 14 = .ok (.aload_n 0, 1) := by decide +kernel
theorem E4_14 {call : jv_F} {l1 l2 l3 l4 l5 l6 l7 l8 l9 l10 : Option Value} {a : Nat} {st : List Value} {h : jv_H} : jv_ev call 4 14 [some (.ref a), l1, l2, l3, l4, l5, l6, l7, l8, l9, l10] st h = jv_ev call 4 15 [some (.ref a), l1, l2, l3, l4, l5, l6, l7, l8, l9, l10] (.ref a :: st) h := je_aload_n (r := some a) D4_14 rfl rfl
theorem D4_15 : decode (jt_code 4) 15 = .ok (.getfield 13, 3) := by decide +kernel
theorem E4_15 {call : jv_F} {l0 l1 l2 l3 l4 l5 l6 l7 l8 l9 l10 : Option Value}  {st : List Value} {m : Nat} {I : Nat → Int32} {A : Nat → Nat → Int32} {L : Nat → Nat → Int64} {rest : Nat → Option jv_C} {z : Nat × Nat} : jv_ev call 4 15 [l0, l1, l2, l3, l4, l5, l6, l7, l8, l9, l10] (.ref m :: st) (jm_H m I A L rest z) = jv_ev call 4 18 [l0, l1, l2, l3, l4, l5, l6, l7, l8, l9, l10] (.ref (m + 1) :: st) (jm_H m I A L rest z) := je_get D4_15 rfl (by decide) jm_g1
theorem D4_18 : decode (jt_code 4) 18 = .ok (.aload_n 0, 1) := by decide +kernel
theorem E4_18 {call : jv_F} {l1 l2 l3 l4 l5 l6 l7 l8 l9 l10 : Option Value} {a : Nat} {st : List Value} {h : jv_H} : jv_ev call 4 18 [some (.ref a), l1, l2, l3, l4, l5, l6, l7, l8, l9, l10] st h = jv_ev call 4 19 [some (.ref a), l1, l2, l3, l4, l5, l6, l7, l8, l9, l10] (.ref a :: st) h := je_aload_n (r := some a) D4_18 rfl rfl
theorem D4_19 : decode (jt_code 4) 19 = .ok (.getfield 100, 3) := by decide +kernel
theorem E4_19 {call : jv_F} {l0 l1 l2 l3 l4 l5 l6 l7 l8 l9 l10 : Option Value}  {st : List Value} {m : Nat} {I : Nat → Int32} {A : Nat → Nat → Int32} {L : Nat → Nat → Int64} {rest : Nat → Option jv_C} {z : Nat × Nat} : jv_ev call 4 19 [l0, l1, l2, l3, l4, l5, l6, l7, l8, l9, l10] (.ref m :: st) (jm_H m I A L rest z) = jv_ev call 4 22 [l0, l1, l2, l3, l4, l5, l6, l7, l8, l9, l10] (.int (I 2) :: st) (jm_H m I A L rest z) := je_get D4_19 rfl (by decide) jm_g2
theorem D4_22 : decode (jt_code 4) 22 = .ok (.lload_n 1, 1) := by decide +kernel
theorem E4_22 {call : jv_F} {l0 l2 l3 l4 l5 l6 l7 l8 l9 l10 : Option Value} {x : Int64} {st : List Value} {h : jv_H} : jv_ev call 4 22 [l0, some (.long x), l2, l3, l4, l5, l6, l7, l8, l9, l10] st h = jv_ev call 4 23 [l0, some (.long x), l2, l3, l4, l5, l6, l7, l8, l9, l10] (.long x :: st) h := je_lload_n D4_22 rfl rfl
theorem D4_23 : decode (jt_code 4) 23 = .ok (.invokestatic 103, 3) := by decide +kernel
theorem E4_23 {call : jv_F} {l0 l1 l2 l3 l4 l5 l6 l7 l8 l9 l10 : Option Value} {v0 : Value}  {st : List Value} {h : jv_H} (hw : jv_wide st = true) (hc : (call 1 [v0] h).isSome = true) : jv_ev call 4 23 [l0, l1, l2, l3, l4, l5, l6, l7, l8, l9, l10] (v0 :: st) h = jv_ev call 4 26 [l0, l1, l2, l3, l4, l5, l6, l7, l8, l9, l10] ((((call 1 [v0] h).getD (none, h)).1).toList ++ st) ((call 1 [v0] h).getD (none, h)).2 := by
  obtain ⟨⟨r, h'⟩, hv⟩ := Option.isSome_iff_exists.mp hc
  rw [hv]
  exact je_stat (y := 1) (as := [v0]) D4_23 rfl (by decide) (by decide) rfl hw hv
theorem D4_26 : decode (jt_code 4) 26 = .ok (.lastore, 1) := by decide +kernel
theorem E4_26 {call : jv_F} {l0 l1 l2 l3 l4 l5 l6 l7 l8 l9 l10 : Option Value} {i : Nat} {v : Int64} {st : List Value} {m : Nat} {I : Nat → Int32} {A : Nat → Nat → Int32} {L : Nat → Nat → Int64} {rest : Nat → Option jv_C} {z : Nat × Nat} (hi : i < 1000) : jv_ev call 4 26 [l0, l1, l2, l3, l4, l5, l6, l7, l8, l9, l10] (.long v :: .int (nI i) :: .ref (m + 1) :: st) (jm_H m I A L rest z) = jv_ev call 4 27 [l0, l1, l2, l3, l4, l5, l6, l7, l8, l9, l10] st (jm_H m I A (va_up L 1 (vp_updL (L 1) i v)) rest z) := je_last D4_26 rfl (jm_s1 hi)
theorem D4_27 : decode (jt_code 4) 27 = .ok (.aload_n 0, 1) := by decide +kernel
theorem E4_27 {call : jv_F} {l1 l2 l3 l4 l5 l6 l7 l8 l9 l10 : Option Value} {a : Nat} {st : List Value} {h : jv_H} : jv_ev call 4 27 [some (.ref a), l1, l2, l3, l4, l5, l6, l7, l8, l9, l10] st h = jv_ev call 4 28 [some (.ref a), l1, l2, l3, l4, l5, l6, l7, l8, l9, l10] (.ref a :: st) h := je_aload_n (r := some a) D4_27 rfl rfl
theorem D4_28 : decode (jt_code 4) 28 = .ok (.getfield 13, 3) := by decide +kernel
theorem E4_28 {call : jv_F} {l0 l1 l2 l3 l4 l5 l6 l7 l8 l9 l10 : Option Value}  {st : List Value} {m : Nat} {I : Nat → Int32} {A : Nat → Nat → Int32} {L : Nat → Nat → Int64} {rest : Nat → Option jv_C} {z : Nat × Nat} : jv_ev call 4 28 [l0, l1, l2, l3, l4, l5, l6, l7, l8, l9, l10] (.ref m :: st) (jm_H m I A L rest z) = jv_ev call 4 31 [l0, l1, l2, l3, l4, l5, l6, l7, l8, l9, l10] (.ref (m + 1) :: st) (jm_H m I A L rest z) := je_get D4_28 rfl (by decide) jm_g1
theorem D4_31 : decode (jt_code 4) 31 = .ok (.aload_n 0, 1) := by decide +kernel
theorem E4_31 {call : jv_F} {l1 l2 l3 l4 l5 l6 l7 l8 l9 l10 : Option Value} {a : Nat} {st : List Value} {h : jv_H} : jv_ev call 4 31 [some (.ref a), l1, l2, l3, l4, l5, l6, l7, l8, l9, l10] st h = jv_ev call 4 32 [some (.ref a), l1, l2, l3, l4, l5, l6, l7, l8, l9, l10] (.ref a :: st) h := je_aload_n (r := some a) D4_31 rfl rfl
theorem D4_32 : decode (jt_code 4) 32 = .ok (.getfield 100, 3) := by decide +kernel
theorem E4_32 {call : jv_F} {l0 l1 l2 l3 l4 l5 l6 l7 l8 l9 l10 : Option Value}  {st : List Value} {m : Nat} {I : Nat → Int32} {A : Nat → Nat → Int32} {L : Nat → Nat → Int64} {rest : Nat → Option jv_C} {z : Nat × Nat} : jv_ev call 4 32 [l0, l1, l2, l3, l4, l5, l6, l7, l8, l9, l10] (.ref m :: st) (jm_H m I A L rest z) = jv_ev call 4 35 [l0, l1, l2, l3, l4, l5, l6, l7, l8, l9, l10] (.int (I 2) :: st) (jm_H m I A L rest z) := je_get D4_32 rfl (by decide) jm_g2
theorem D4_35 : decode (jt_code 4) 35 = .ok (.iconst 1, 1) := by decide +kernel
theorem E4_35 {call : jv_F} {l0 l1 l2 l3 l4 l5 l6 l7 l8 l9 l10 : Option Value}  {st : List Value} {h : jv_H} : jv_ev call 4 35 [l0, l1, l2, l3, l4, l5, l6, l7, l8, l9, l10] st h = jv_ev call 4 36 [l0, l1, l2, l3, l4, l5, l6, l7, l8, l9, l10] (.int (nI 1) :: st) h := je_iconst D4_35 rfl (by decide)
theorem D4_36 : decode (jt_code 4) 36 = .ok (.iadd, 1) := by decide +kernel
theorem E4_36 {call : jv_F} {l0 l1 l2 l3 l4 l5 l6 l7 l8 l9 l10 : Option Value} {x y : Int32} {st : List Value} {h : jv_H} : jv_ev call 4 36 [l0, l1, l2, l3, l4, l5, l6, l7, l8, l9, l10] (.int y :: .int x :: st) h = jv_ev call 4 37 [l0, l1, l2, l3, l4, l5, l6, l7, l8, l9, l10] (.int (x + y) :: st) h := je_b2 (f := fun x y => x + y) D4_36 rfl (fun _ => rfl)
theorem D4_37 : decode (jt_code 4) 37 = .ok (.lload_n 3, 1) := by decide +kernel
theorem E4_37 {call : jv_F} {l0 l1 l2 l4 l5 l6 l7 l8 l9 l10 : Option Value} {x : Int64} {st : List Value} {h : jv_H} : jv_ev call 4 37 [l0, l1, l2, some (.long x), l4, l5, l6, l7, l8, l9, l10] st h = jv_ev call 4 38 [l0, l1, l2, some (.long x), l4, l5, l6, l7, l8, l9, l10] (.long x :: st) h := je_lload_n D4_37 rfl rfl
theorem D4_38 : decode (jt_code 4) 38 = .ok (.invokestatic 103, 3) := by decide +kernel
theorem E4_38 {call : jv_F} {l0 l1 l2 l3 l4 l5 l6 l7 l8 l9 l10 : Option Value} {v0 : Value}  {st : List Value} {h : jv_H} (hw : jv_wide st = true) (hc : (call 1 [v0] h).isSome = true) : jv_ev call 4 38 [l0, l1, l2, l3, l4, l5, l6, l7, l8, l9, l10] (v0 :: st) h = jv_ev call 4 41 [l0, l1, l2, l3, l4, l5, l6, l7, l8, l9, l10] ((((call 1 [v0] h).getD (none, h)).1).toList ++ st) ((call 1 [v0] h).getD (none, h)).2 := by
  obtain ⟨⟨r, h'⟩, hv⟩ := Option.isSome_iff_exists.mp hc
  rw [hv]
  exact je_stat (y := 1) (as := [v0]) D4_38 rfl (by decide) (by decide) rfl hw hv
theorem D4_41 : decode (jt_code 4) 41 = .ok (.lastore, 1) := by decide +kernel
theorem E4_41 {call : jv_F} {l0 l1 l2 l3 l4 l5 l6 l7 l8 l9 l10 : Option Value} {i : Nat} {v : Int64} {st : List Value} {m : Nat} {I : Nat → Int32} {A : Nat → Nat → Int32} {L : Nat → Nat → Int64} {rest : Nat → Option jv_C} {z : Nat × Nat} (hi : i < 1000) : jv_ev call 4 41 [l0, l1, l2, l3, l4, l5, l6, l7, l8, l9, l10] (.long v :: .int (nI i) :: .ref (m + 1) :: st) (jm_H m I A L rest z) = jv_ev call 4 42 [l0, l1, l2, l3, l4, l5, l6, l7, l8, l9, l10] st (jm_H m I A (va_up L 1 (vp_updL (L 1) i v)) rest z) := je_last D4_41 rfl (jm_s1 hi)
theorem D4_42 : decode (jt_code 4) 42 = .ok (.aload_n 0, 1) := by decide +kernel
theorem E4_42 {call : jv_F} {l1 l2 l3 l4 l5 l6 l7 l8 l9 l10 : Option Value} {a : Nat} {st : List Value} {h : jv_H} : jv_ev call 4 42 [some (.ref a), l1, l2, l3, l4, l5, l6, l7, l8, l9, l10] st h = jv_ev call 4 43 [some (.ref a), l1, l2, l3, l4, l5, l6, l7, l8, l9, l10] (.ref a :: st) h := je_aload_n (r := some a) D4_42 rfl rfl
theorem D4_43 : decode (jt_code 4) 43 = .ok (.getfield 13, 3) := by decide +kernel
theorem E4_43 {call : jv_F} {l0 l1 l2 l3 l4 l5 l6 l7 l8 l9 l10 : Option Value}  {st : List Value} {m : Nat} {I : Nat → Int32} {A : Nat → Nat → Int32} {L : Nat → Nat → Int64} {rest : Nat → Option jv_C} {z : Nat × Nat} : jv_ev call 4 43 [l0, l1, l2, l3, l4, l5, l6, l7, l8, l9, l10] (.ref m :: st) (jm_H m I A L rest z) = jv_ev call 4 46 [l0, l1, l2, l3, l4, l5, l6, l7, l8, l9, l10] (.ref (m + 1) :: st) (jm_H m I A L rest z) := je_get D4_43 rfl (by decide) jm_g1
theorem D4_46 : decode (jt_code 4) 46 = .ok (.aload_n 0, 1) := by decide +kernel
theorem E4_46 {call : jv_F} {l1 l2 l3 l4 l5 l6 l7 l8 l9 l10 : Option Value} {a : Nat} {st : List Value} {h : jv_H} : jv_ev call 4 46 [some (.ref a), l1, l2, l3, l4, l5, l6, l7, l8, l9, l10] st h = jv_ev call 4 47 [some (.ref a), l1, l2, l3, l4, l5, l6, l7, l8, l9, l10] (.ref a :: st) h := je_aload_n (r := some a) D4_46 rfl rfl
theorem D4_47 : decode (jt_code 4) 47 = .ok (.getfield 100, 3) := by decide +kernel
theorem E4_47 {call : jv_F} {l0 l1 l2 l3 l4 l5 l6 l7 l8 l9 l10 : Option Value}  {st : List Value} {m : Nat} {I : Nat → Int32} {A : Nat → Nat → Int32} {L : Nat → Nat → Int64} {rest : Nat → Option jv_C} {z : Nat × Nat} : jv_ev call 4 47 [l0, l1, l2, l3, l4, l5, l6, l7, l8, l9, l10] (.ref m :: st) (jm_H m I A L rest z) = jv_ev call 4 50 [l0, l1, l2, l3, l4, l5, l6, l7, l8, l9, l10] (.int (I 2) :: st) (jm_H m I A L rest z) := je_get D4_47 rfl (by decide) jm_g2
theorem D4_50 : decode (jt_code 4) 50 = .ok (.iconst 2, 1) := by decide +kernel
theorem E4_50 {call : jv_F} {l0 l1 l2 l3 l4 l5 l6 l7 l8 l9 l10 : Option Value}  {st : List Value} {h : jv_H} : jv_ev call 4 50 [l0, l1, l2, l3, l4, l5, l6, l7, l8, l9, l10] st h = jv_ev call 4 51 [l0, l1, l2, l3, l4, l5, l6, l7, l8, l9, l10] (.int (nI 2) :: st) h := je_iconst D4_50 rfl (by decide)
theorem D4_51 : decode (jt_code 4) 51 = .ok (.iadd, 1) := by decide +kernel
theorem E4_51 {call : jv_F} {l0 l1 l2 l3 l4 l5 l6 l7 l8 l9 l10 : Option Value} {x y : Int32} {st : List Value} {h : jv_H} : jv_ev call 4 51 [l0, l1, l2, l3, l4, l5, l6, l7, l8, l9, l10] (.int y :: .int x :: st) h = jv_ev call 4 52 [l0, l1, l2, l3, l4, l5, l6, l7, l8, l9, l10] (.int (x + y) :: st) h := je_b2 (f := fun x y => x + y) D4_51 rfl (fun _ => rfl)
theorem D4_52 : decode (jt_code 4) 52 = .ok (.lload 5, 2) := by decide +kernel
theorem E4_52 {call : jv_F} {l0 l1 l2 l3 l4 l6 l7 l8 l9 l10 : Option Value} {x : Int64} {st : List Value} {h : jv_H} : jv_ev call 4 52 [l0, l1, l2, l3, l4, some (.long x), l6, l7, l8, l9, l10] st h = jv_ev call 4 54 [l0, l1, l2, l3, l4, some (.long x), l6, l7, l8, l9, l10] (.long x :: st) h := je_lload D4_52 rfl rfl
theorem D4_54 : decode (jt_code 4) 54 = .ok (.invokestatic 103, 3) := by decide +kernel
theorem E4_54 {call : jv_F} {l0 l1 l2 l3 l4 l5 l6 l7 l8 l9 l10 : Option Value} {v0 : Value}  {st : List Value} {h : jv_H} (hw : jv_wide st = true) (hc : (call 1 [v0] h).isSome = true) : jv_ev call 4 54 [l0, l1, l2, l3, l4, l5, l6, l7, l8, l9, l10] (v0 :: st) h = jv_ev call 4 57 [l0, l1, l2, l3, l4, l5, l6, l7, l8, l9, l10] ((((call 1 [v0] h).getD (none, h)).1).toList ++ st) ((call 1 [v0] h).getD (none, h)).2 := by
  obtain ⟨⟨r, h'⟩, hv⟩ := Option.isSome_iff_exists.mp hc
  rw [hv]
  exact je_stat (y := 1) (as := [v0]) D4_54 rfl (by decide) (by decide) rfl hw hv
theorem D4_57 : decode (jt_code 4) 57 = .ok (.lastore, 1) := by decide +kernel
theorem E4_57 {call : jv_F} {l0 l1 l2 l3 l4 l5 l6 l7 l8 l9 l10 : Option Value} {i : Nat} {v : Int64} {st : List Value} {m : Nat} {I : Nat → Int32} {A : Nat → Nat → Int32} {L : Nat → Nat → Int64} {rest : Nat → Option jv_C} {z : Nat × Nat} (hi : i < 1000) : jv_ev call 4 57 [l0, l1, l2, l3, l4, l5, l6, l7, l8, l9, l10] (.long v :: .int (nI i) :: .ref (m + 1) :: st) (jm_H m I A L rest z) = jv_ev call 4 58 [l0, l1, l2, l3, l4, l5, l6, l7, l8, l9, l10] st (jm_H m I A (va_up L 1 (vp_updL (L 1) i v)) rest z) := je_last D4_57 rfl (jm_s1 hi)
theorem D4_58 : decode (jt_code 4) 58 = .ok (.aload_n 0, 1) := by decide +kernel
theorem E4_58 {call : jv_F} {l1 l2 l3 l4 l5 l6 l7 l8 l9 l10 : Option Value} {a : Nat} {st : List Value} {h : jv_H} : jv_ev call 4 58 [some (.ref a), l1, l2, l3, l4, l5, l6, l7, l8, l9, l10] st h = jv_ev call 4 59 [some (.ref a), l1, l2, l3, l4, l5, l6, l7, l8, l9, l10] (.ref a :: st) h := je_aload_n (r := some a) D4_58 rfl rfl
theorem D4_59 : decode (jt_code 4) 59 = .ok (.getfield 13, 3) := by decide +kernel
theorem E4_59 {call : jv_F} {l0 l1 l2 l3 l4 l5 l6 l7 l8 l9 l10 : Option Value}  {st : List Value} {m : Nat} {I : Nat → Int32} {A : Nat → Nat → Int32} {L : Nat → Nat → Int64} {rest : Nat → Option jv_C} {z : Nat × Nat} : jv_ev call 4 59 [l0, l1, l2, l3, l4, l5, l6, l7, l8, l9, l10] (.ref m :: st) (jm_H m I A L rest z) = jv_ev call 4 62 [l0, l1, l2, l3, l4, l5, l6, l7, l8, l9, l10] (.ref (m + 1) :: st) (jm_H m I A L rest z) := je_get D4_59 rfl (by decide) jm_g1
theorem D4_62 : decode (jt_code 4) 62 = .ok (.aload_n 0, 1) := by decide +kernel
theorem E4_62 {call : jv_F} {l1 l2 l3 l4 l5 l6 l7 l8 l9 l10 : Option Value} {a : Nat} {st : List Value} {h : jv_H} : jv_ev call 4 62 [some (.ref a), l1, l2, l3, l4, l5, l6, l7, l8, l9, l10] st h = jv_ev call 4 63 [some (.ref a), l1, l2, l3, l4, l5, l6, l7, l8, l9, l10] (.ref a :: st) h := je_aload_n (r := some a) D4_62 rfl rfl
theorem D4_63 : decode (jt_code 4) 63 = .ok (.getfield 100, 3) := by decide +kernel
theorem E4_63 {call : jv_F} {l0 l1 l2 l3 l4 l5 l6 l7 l8 l9 l10 : Option Value}  {st : List Value} {m : Nat} {I : Nat → Int32} {A : Nat → Nat → Int32} {L : Nat → Nat → Int64} {rest : Nat → Option jv_C} {z : Nat × Nat} : jv_ev call 4 63 [l0, l1, l2, l3, l4, l5, l6, l7, l8, l9, l10] (.ref m :: st) (jm_H m I A L rest z) = jv_ev call 4 66 [l0, l1, l2, l3, l4, l5, l6, l7, l8, l9, l10] (.int (I 2) :: st) (jm_H m I A L rest z) := je_get D4_63 rfl (by decide) jm_g2
theorem D4_66 : decode (jt_code 4) 66 = .ok (.iconst 3, 1) := by decide +kernel
theorem E4_66 {call : jv_F} {l0 l1 l2 l3 l4 l5 l6 l7 l8 l9 l10 : Option Value}  {st : List Value} {h : jv_H} : jv_ev call 4 66 [l0, l1, l2, l3, l4, l5, l6, l7, l8, l9, l10] st h = jv_ev call 4 67 [l0, l1, l2, l3, l4, l5, l6, l7, l8, l9, l10] (.int (nI 3) :: st) h := je_iconst D4_66 rfl (by decide)
theorem D4_67 : decode (jt_code 4) 67 = .ok (.iadd, 1) := by decide +kernel
theorem E4_67 {call : jv_F} {l0 l1 l2 l3 l4 l5 l6 l7 l8 l9 l10 : Option Value} {x y : Int32} {st : List Value} {h : jv_H} : jv_ev call 4 67 [l0, l1, l2, l3, l4, l5, l6, l7, l8, l9, l10] (.int y :: .int x :: st) h = jv_ev call 4 68 [l0, l1, l2, l3, l4, l5, l6, l7, l8, l9, l10] (.int (x + y) :: st) h := je_b2 (f := fun x y => x + y) D4_67 rfl (fun _ => rfl)
theorem D4_68 : decode (jt_code 4) 68 = .ok (.lload 7, 2) := by decide +kernel
theorem E4_68 {call : jv_F} {l0 l1 l2 l3 l4 l5 l6 l8 l9 l10 : Option Value} {x : Int64} {st : List Value} {h : jv_H} : jv_ev call 4 68 [l0, l1, l2, l3, l4, l5, l6, some (.long x), l8, l9, l10] st h = jv_ev call 4 70 [l0, l1, l2, l3, l4, l5, l6, some (.long x), l8, l9, l10] (.long x :: st) h := je_lload D4_68 rfl rfl
theorem D4_70 : decode (jt_code 4) 70 = .ok (.invokestatic 103, 3) := by decide +kernel
theorem E4_70 {call : jv_F} {l0 l1 l2 l3 l4 l5 l6 l7 l8 l9 l10 : Option Value} {v0 : Value}  {st : List Value} {h : jv_H} (hw : jv_wide st = true) (hc : (call 1 [v0] h).isSome = true) : jv_ev call 4 70 [l0, l1, l2, l3, l4, l5, l6, l7, l8, l9, l10] (v0 :: st) h = jv_ev call 4 73 [l0, l1, l2, l3, l4, l5, l6, l7, l8, l9, l10] ((((call 1 [v0] h).getD (none, h)).1).toList ++ st) ((call 1 [v0] h).getD (none, h)).2 := by
  obtain ⟨⟨r, h'⟩, hv⟩ := Option.isSome_iff_exists.mp hc
  rw [hv]
  exact je_stat (y := 1) (as := [v0]) D4_70 rfl (by decide) (by decide) rfl hw hv
theorem D4_73 : decode (jt_code 4) 73 = .ok (.lastore, 1) := by decide +kernel
theorem E4_73 {call : jv_F} {l0 l1 l2 l3 l4 l5 l6 l7 l8 l9 l10 : Option Value} {i : Nat} {v : Int64} {st : List Value} {m : Nat} {I : Nat → Int32} {A : Nat → Nat → Int32} {L : Nat → Nat → Int64} {rest : Nat → Option jv_C} {z : Nat × Nat} (hi : i < 1000) : jv_ev call 4 73 [l0, l1, l2, l3, l4, l5, l6, l7, l8, l9, l10] (.long v :: .int (nI i) :: .ref (m + 1) :: st) (jm_H m I A L rest z) = jv_ev call 4 74 [l0, l1, l2, l3, l4, l5, l6, l7, l8, l9, l10] st (jm_H m I A (va_up L 1 (vp_updL (L 1) i v)) rest z) := je_last D4_73 rfl (jm_s1 hi)
theorem D4_74 : decode (jt_code 4) 74 = .ok (.aload_n 0, 1) := by decide +kernel
theorem E4_74 {call : jv_F} {l1 l2 l3 l4 l5 l6 l7 l8 l9 l10 : Option Value} {a : Nat} {st : List Value} {h : jv_H} : jv_ev call 4 74 [some (.ref a), l1, l2, l3, l4, l5, l6, l7, l8, l9, l10] st h = jv_ev call 4 75 [some (.ref a), l1, l2, l3, l4, l5, l6, l7, l8, l9, l10] (.ref a :: st) h := je_aload_n (r := some a) D4_74 rfl rfl
theorem D4_75 : decode (jt_code 4) 75 = .ok (.getfield 13, 3) := by decide +kernel
theorem E4_75 {call : jv_F} {l0 l1 l2 l3 l4 l5 l6 l7 l8 l9 l10 : Option Value}  {st : List Value} {m : Nat} {I : Nat → Int32} {A : Nat → Nat → Int32} {L : Nat → Nat → Int64} {rest : Nat → Option jv_C} {z : Nat × Nat} : jv_ev call 4 75 [l0, l1, l2, l3, l4, l5, l6, l7, l8, l9, l10] (.ref m :: st) (jm_H m I A L rest z) = jv_ev call 4 78 [l0, l1, l2, l3, l4, l5, l6, l7, l8, l9, l10] (.ref (m + 1) :: st) (jm_H m I A L rest z) := je_get D4_75 rfl (by decide) jm_g1
theorem D4_78 : decode (jt_code 4) 78 = .ok (.aload_n 0, 1) := by decide +kernel
theorem E4_78 {call : jv_F} {l1 l2 l3 l4 l5 l6 l7 l8 l9 l10 : Option Value} {a : Nat} {st : List Value} {h : jv_H} : jv_ev call 4 78 [some (.ref a), l1, l2, l3, l4, l5, l6, l7, l8, l9, l10] st h = jv_ev call 4 79 [some (.ref a), l1, l2, l3, l4, l5, l6, l7, l8, l9, l10] (.ref a :: st) h := je_aload_n (r := some a) D4_78 rfl rfl
theorem D4_79 : decode (jt_code 4) 79 = .ok (.getfield 100, 3) := by decide +kernel
theorem E4_79 {call : jv_F} {l0 l1 l2 l3 l4 l5 l6 l7 l8 l9 l10 : Option Value}  {st : List Value} {m : Nat} {I : Nat → Int32} {A : Nat → Nat → Int32} {L : Nat → Nat → Int64} {rest : Nat → Option jv_C} {z : Nat × Nat} : jv_ev call 4 79 [l0, l1, l2, l3, l4, l5, l6, l7, l8, l9, l10] (.ref m :: st) (jm_H m I A L rest z) = jv_ev call 4 82 [l0, l1, l2, l3, l4, l5, l6, l7, l8, l9, l10] (.int (I 2) :: st) (jm_H m I A L rest z) := je_get D4_79 rfl (by decide) jm_g2
theorem D4_82 : decode (jt_code 4) 82 = .ok (.iconst 4, 1) := by decide +kernel
theorem E4_82 {call : jv_F} {l0 l1 l2 l3 l4 l5 l6 l7 l8 l9 l10 : Option Value}  {st : List Value} {h : jv_H} : jv_ev call 4 82 [l0, l1, l2, l3, l4, l5, l6, l7, l8, l9, l10] st h = jv_ev call 4 83 [l0, l1, l2, l3, l4, l5, l6, l7, l8, l9, l10] (.int (nI 4) :: st) h := je_iconst D4_82 rfl (by decide)
theorem D4_83 : decode (jt_code 4) 83 = .ok (.iadd, 1) := by decide +kernel
theorem E4_83 {call : jv_F} {l0 l1 l2 l3 l4 l5 l6 l7 l8 l9 l10 : Option Value} {x y : Int32} {st : List Value} {h : jv_H} : jv_ev call 4 83 [l0, l1, l2, l3, l4, l5, l6, l7, l8, l9, l10] (.int y :: .int x :: st) h = jv_ev call 4 84 [l0, l1, l2, l3, l4, l5, l6, l7, l8, l9, l10] (.int (x + y) :: st) h := je_b2 (f := fun x y => x + y) D4_83 rfl (fun _ => rfl)
theorem D4_84 : decode (jt_code 4) 84 = .ok (.lload 9, 2) := by decide +kernel
theorem E4_84 {call : jv_F} {l0 l1 l2 l3 l4 l5 l6 l7 l8 l10 : Option Value} {x : Int64} {st : List Value} {h : jv_H} : jv_ev call 4 84 [l0, l1, l2, l3, l4, l5, l6, l7, l8, some (.long x), l10] st h = jv_ev call 4 86 [l0, l1, l2, l3, l4, l5, l6, l7, l8, some (.long x), l10] (.long x :: st) h := je_lload D4_84 rfl rfl
theorem D4_86 : decode (jt_code 4) 86 = .ok (.invokestatic 103, 3) := by decide +kernel
theorem E4_86 {call : jv_F} {l0 l1 l2 l3 l4 l5 l6 l7 l8 l9 l10 : Option Value} {v0 : Value}  {st : List Value} {h : jv_H} (hw : jv_wide st = true) (hc : (call 1 [v0] h).isSome = true) : jv_ev call 4 86 [l0, l1, l2, l3, l4, l5, l6, l7, l8, l9, l10] (v0 :: st) h = jv_ev call 4 89 [l0, l1, l2, l3, l4, l5, l6, l7, l8, l9, l10] ((((call 1 [v0] h).getD (none, h)).1).toList ++ st) ((call 1 [v0] h).getD (none, h)).2 := by
  obtain ⟨⟨r, h'⟩, hv⟩ := Option.isSome_iff_exists.mp hc
  rw [hv]
  exact je_stat (y := 1) (as := [v0]) D4_86 rfl (by decide) (by decide) rfl hw hv
theorem D4_89 : decode (jt_code 4) 89 = .ok (.lastore, 1) := by decide +kernel
theorem E4_89 {call : jv_F} {l0 l1 l2 l3 l4 l5 l6 l7 l8 l9 l10 : Option Value} {i : Nat} {v : Int64} {st : List Value} {m : Nat} {I : Nat → Int32} {A : Nat → Nat → Int32} {L : Nat → Nat → Int64} {rest : Nat → Option jv_C} {z : Nat × Nat} (hi : i < 1000) : jv_ev call 4 89 [l0, l1, l2, l3, l4, l5, l6, l7, l8, l9, l10] (.long v :: .int (nI i) :: .ref (m + 1) :: st) (jm_H m I A L rest z) = jv_ev call 4 90 [l0, l1, l2, l3, l4, l5, l6, l7, l8, l9, l10] st (jm_H m I A (va_up L 1 (vp_updL (L 1) i v)) rest z) := je_last D4_89 rfl (jm_s1 hi)
theorem D4_90 : decode (jt_code 4) 90 = .ok (.aload_n 0, 1) := by decide +kernel
theorem E4_90 {call : jv_F} {l1 l2 l3 l4 l5 l6 l7 l8 l9 l10 : Option Value} {a : Nat} {st : List Value} {h : jv_H} : jv_ev call 4 90 [some (.ref a), l1, l2, l3, l4, l5, l6, l7, l8, l9, l10] st h = jv_ev call 4 91 [some (.ref a), l1, l2, l3, l4, l5, l6, l7, l8, l9, l10] (.ref a :: st) h := je_aload_n (r := some a) D4_90 rfl rfl
theorem D4_91 : decode (jt_code 4) 91 = .ok (.dup, 1) := by decide +kernel
theorem E4_91 {call : jv_F} {l0 l1 l2 l3 l4 l5 l6 l7 l8 l9 l10 : Option Value} {a : Nat} {st : List Value} {h : jv_H} : jv_ev call 4 91 [l0, l1, l2, l3, l4, l5, l6, l7, l8, l9, l10] (.ref a :: st) h = jv_ev call 4 92 [l0, l1, l2, l3, l4, l5, l6, l7, l8, l9, l10] (.ref a :: .ref a :: st) h := je_dup D4_91 rfl rfl
theorem E4_91i {call : jv_F} {l0 l1 l2 l3 l4 l5 l6 l7 l8 l9 l10 : Option Value} {x : Int32} {st : List Value} {h : jv_H} : jv_ev call 4 91 [l0, l1, l2, l3, l4, l5, l6, l7, l8, l9, l10] (.int x :: st) h = jv_ev call 4 92 [l0, l1, l2, l3, l4, l5, l6, l7, l8, l9, l10] (.int x :: .int x :: st) h := je_dup D4_91 rfl rfl
theorem D4_92 : decode (jt_code 4) 92 = .ok (.getfield 100, 3) := by decide +kernel
theorem E4_92 {call : jv_F} {l0 l1 l2 l3 l4 l5 l6 l7 l8 l9 l10 : Option Value}  {st : List Value} {m : Nat} {I : Nat → Int32} {A : Nat → Nat → Int32} {L : Nat → Nat → Int64} {rest : Nat → Option jv_C} {z : Nat × Nat} : jv_ev call 4 92 [l0, l1, l2, l3, l4, l5, l6, l7, l8, l9, l10] (.ref m :: st) (jm_H m I A L rest z) = jv_ev call 4 95 [l0, l1, l2, l3, l4, l5, l6, l7, l8, l9, l10] (.int (I 2) :: st) (jm_H m I A L rest z) := je_get D4_92 rfl (by decide) jm_g2
theorem D4_95 : decode (jt_code 4) 95 = .ok (.iconst 5, 1) := by decide +kernel
theorem E4_95 {call : jv_F} {l0 l1 l2 l3 l4 l5 l6 l7 l8 l9 l10 : Option Value}  {st : List Value} {h : jv_H} : jv_ev call 4 95 [l0, l1, l2, l3, l4, l5, l6, l7, l8, l9, l10] st h = jv_ev call 4 96 [l0, l1, l2, l3, l4, l5, l6, l7, l8, l9, l10] (.int (nI 5) :: st) h := je_iconst D4_95 rfl (by decide)
theorem D4_96 : decode (jt_code 4) 96 = .ok (.iadd, 1) := by decide +kernel
theorem E4_96 {call : jv_F} {l0 l1 l2 l3 l4 l5 l6 l7 l8 l9 l10 : Option Value} {x y : Int32} {st : List Value} {h : jv_H} : jv_ev call 4 96 [l0, l1, l2, l3, l4, l5, l6, l7, l8, l9, l10] (.int y :: .int x :: st) h = jv_ev call 4 97 [l0, l1, l2, l3, l4, l5, l6, l7, l8, l9, l10] (.int (x + y) :: st) h := je_b2 (f := fun x y => x + y) D4_96 rfl (fun _ => rfl)
theorem D4_97 : decode (jt_code 4) 97 = .ok (.putfield 100, 3) := by decide +kernel
theorem E4_97 {call : jv_F} {l0 l1 l2 l3 l4 l5 l6 l7 l8 l9 l10 : Option Value} {v : Int32} {st : List Value} {m : Nat} {I : Nat → Int32} {A : Nat → Nat → Int32} {L : Nat → Nat → Int64} {rest : Nat → Option jv_C} {z : Nat × Nat} : jv_ev call 4 97 [l0, l1, l2, l3, l4, l5, l6, l7, l8, l9, l10] (.int v :: .ref m :: st) (jm_H m I A L rest z) = jv_ev call 4 100 [l0, l1, l2, l3, l4, l5, l6, l7, l8, l9, l10] st (jm_H m (upd I 2 v) A L rest z) := je_put D4_97 rfl (by decide) (by decide) jm_p2
theorem D4_100 : decode (jt_code 4) 100 = .ok (.aload_n 0, 1) := by decide +kernel
theorem E4_100 {call : jv_F} {l1 l2 l3 l4 l5 l6 l7 l8 l9 l10 : Option Value} {a : Nat} {st : List Value} {h : jv_H} : jv_ev call 4 100 [some (.ref a), l1, l2, l3, l4, l5, l6, l7, l8, l9, l10] st h = jv_ev call 4 101 [some (.ref a), l1, l2, l3, l4, l5, l6, l7, l8, l9, l10] (.ref a :: st) h := je_aload_n (r := some a) D4_100 rfl rfl
theorem D4_101 : decode (jt_code 4) 101 = .ok (.getfield 100, 3) := by decide +kernel
theorem E4_101 {call : jv_F} {l0 l1 l2 l3 l4 l5 l6 l7 l8 l9 l10 : Option Value}  {st : List Value} {m : Nat} {I : Nat → Int32} {A : Nat → Nat → Int32} {L : Nat → Nat → Int64} {rest : Nat → Option jv_C} {z : Nat × Nat} : jv_ev call 4 101 [l0, l1, l2, l3, l4, l5, l6, l7, l8, l9, l10] (.ref m :: st) (jm_H m I A L rest z) = jv_ev call 4 104 [l0, l1, l2, l3, l4, l5, l6, l7, l8, l9, l10] (.int (I 2) :: st) (jm_H m I A L rest z) := je_get D4_101 rfl (by decide) jm_g2
theorem D4_104 : decode (jt_code 4) 104 = .ok (.ireturn, 1) := by decide +kernel
theorem E4_104 {call : jv_F} {l0 l1 l2 l3 l4 l5 l6 l7 l8 l9 l10 : Option Value} {v : Int32} {h : jv_H} : jv_ev call 4 104 [l0, l1, l2, l3, l4, l5, l6, l7, l8, l9, l10] [.int v] h = some (some (.int v), h) := je_iret (ty := .int) D4_104 rfl rfl rfl
/-! method 5: DrumMachineModel.bytes -/
theorem N5 {d : Nat} {b : Nat} {a0 : Int64} {a1 : Int64} {a2 : Int64} {a3 : Int64} {a4 : Int32} {h : jv_H} : jv_run (d + 1) 5 [.ref b, .long a0, .long a1, .long a2, .long a3, .int a4] h = jv_ev (jv_run d) 5 0 [some (.ref b), some (.long a0), none, some (.long a1), none, some (.long a2), none, some (.long a3), none, some (.int a4), none, none, none] [] h := jv_run_eq (Nat.le_of_ble_eq_true rfl) rfl
theorem D5_0 : decode (jt_code 5) 0 = .ok (.iload 9, 2) := by decide +kernel
theorem E5_0 {call : jv_F} {l0 l1 l2 l3 l4 l5 l6 l7 l8 l10 l11 l12 : Option Value} {x : Int32} {st : List Value} {h : jv_H} : jv_ev call 5 0 [l0, l1, l2, l3, l4, l5, l6, l7, l8, some (.int x), l10, l11, l12] st h = jv_ev call 5 2 [l0, l1, l2, l3, l4, l5, l6, l7, l8, some (.int x), l10, l11, l12] (.int x :: st) h := je_iload D5_0 rfl rfl
theorem D5_2 : decode (jt_code 5) 2 = .ok (.ifCond .lt 23, 3) := by decide +kernel
theorem E5_2 {call : jv_F} {l0 l1 l2 l3 l4 l5 l6 l7 l8 l9 l10 l11 l12 : Option Value} {x : Int32} {st : List Value} {h : jv_H} : jv_ev call 5 2 [l0, l1, l2, l3, l4, l5, l6, l7, l8, l9, l10, l11, l12] (.int x :: st) h = if x < 0 then jv_ev call 5 25 [l0, l1, l2, l3, l4, l5, l6, l7, l8, l9, l10, l11, l12] st h else jv_ev call 5 5 [l0, l1, l2, l3, l4, l5, l6, l7, l8, l9, l10, l11, l12] st h := je_ifc D5_2 (by decide) rfl rfl
theorem D5_5 : decode (jt_code 5) 5 = .ok (.iload 9, 2) := by decide +kernel
theorem E5_5 {call : jv_F} {l0 l1 l2 l3 l4 l5 l6 l7 l8 l10 l11 l12 : Option Value} {x : Int32} {st : List Value} {h : jv_H} : jv_ev call 5 5 [l0, l1, l2, l3, l4, l5, l6, l7, l8, some (.int x), l10, l11, l12] st h = jv_ev call 5 7 [l0, l1, l2, l3, l4, l5, l6, l7, l8, some (.int x), l10, l11, l12] (.int x :: st) h := je_iload D5_5 rfl rfl
theorem D5_7 : decode (jt_code 5) 7 = .ok (.bipush 32, 2) := by decide +kernel
theorem E5_7 {call : jv_F} {l0 l1 l2 l3 l4 l5 l6 l7 l8 l9 l10 l11 l12 : Option Value}  {st : List Value} {h : jv_H} : jv_ev call 5 7 [l0, l1, l2, l3, l4, l5, l6, l7, l8, l9, l10, l11, l12] st h = jv_ev call 5 9 [l0, l1, l2, l3, l4, l5, l6, l7, l8, l9, l10, l11, l12] (.int (nI 32) :: st) h := je_bipush D5_7 rfl (by decide)
theorem D5_9 : decode (jt_code 5) 9 = .ok (.if_icmp .gt 16, 3) := by decide +kernel
theorem E5_9 {call : jv_F} {l0 l1 l2 l3 l4 l5 l6 l7 l8 l9 l10 l11 l12 : Option Value} {x y : Int32} {st : List Value} {h : jv_H} : jv_ev call 5 9 [l0, l1, l2, l3, l4, l5, l6, l7, l8, l9, l10, l11, l12] (.int y :: .int x :: st) h = if y < x then jv_ev call 5 25 [l0, l1, l2, l3, l4, l5, l6, l7, l8, l9, l10, l11, l12] st h else jv_ev call 5 12 [l0, l1, l2, l3, l4, l5, l6, l7, l8, l9, l10, l11, l12] st h := je_icmp D5_9 (by decide) rfl rfl
theorem D5_12 : decode (jt_code 5) 12 = .ok (.aload_n 0, 1) := by decide +kernel
theorem E5_12 {call : jv_F} {l1 l2 l3 l4 l5 l6 l7 l8 l9 l10 l11 l12 : Option Value} {a : Nat} {st : List Value} {h : jv_H} : jv_ev call 5 12 [some (.ref a), l1, l2, l3, l4, l5, l6, l7, l8, l9, l10, l11, l12] st h = jv_ev call 5 13 [some (.ref a), l1, l2, l3, l4, l5, l6, l7, l8, l9, l10, l11, l12] (.ref a :: st) h := je_aload_n (r := some a) D5_12 rfl rfl
theorem D5_13 : decode (jt_code 5) 13 = .ok (.getfield 107, 3) := by decide +kernel
theorem E5_13 {call : jv_F} {l0 l1 l2 l3 l4 l5 l6 l7 l8 l9 l10 l11 l12 : Option Value}  {st : List Value} {m : Nat} {I : Nat → Int32} {A : Nat → Nat → Int32} {L : Nat → Nat → Int64} {rest : Nat → Option jv_C} {z : Nat × Nat} : jv_ev call 5 13 [l0, l1, l2, l3, l4, l5, l6, l7, l8, l9, l10, l11, l12] (.ref m :: st) (jm_H m I A L rest z) = jv_ev call 5 16 [l0, l1, l2, l3, l4, l5, l6, l7, l8, l9, l10, l11, l12] (.int (I 4) :: st) (jm_H m I A L rest z) := je_get D5_13 rfl (by decide) jm_g4
theorem D5_16 : decode (jt_code 5) 16 = .ok (.iload 9, 2) := by decide +kernel
theorem E5_16 {call : jv_F} {l0 l1 l2 l3 l4 l5 l6 l7 l8 l10 l11 l12 : Option Value} {x : Int32} {st : List Value} {h : jv_H} : jv_ev call 5 16 [l0, l1, l2, l3, l4, l5, l6, l7, l8, some (.int x), l10, l11, l12] st h = jv_ev call 5 18 [l0, l1, l2, l3, l4, l5, l6, l7, l8, some (.int x), l10, l11, l12] (.int x :: st) h := je_iload D5_16 rfl rfl
theorem D5_18 : decode (jt_code 5) 18 = .ok (.iadd, 1) := by decide +kernel
theorem E5_18 {call : jv_F} {l0 l1 l2 l3 l4 l5 l6 l7 l8 l9 l10 l11 l12 : Option Value} {x y : Int32} {st : List Value} {h : jv_H} : jv_ev call 5 18 [l0, l1, l2, l3, l4, l5, l6, l7, l8, l9, l10, l11, l12] (.int y :: .int x :: st) h = jv_ev call 5 19 [l0, l1, l2, l3, l4, l5, l6, l7, l8, l9, l10, l11, l12] (.int (x + y) :: st) h := je_b2 (f := fun x y => x + y) D5_18 rfl (fun _ => rfl)
theorem D5_19 : decode (jt_code 5) 19 = .ok (.sipush 2000, 3) := by decide +kernel
theorem E5_19 {call : jv_F} {l0 l1 l2 l3 l4 l5 l6 l7 l8 l9 l10 l11 l12 : Option Value}  {st : List Value} {h : jv_H} : jv_ev call 5 19 [l0, l1, l2, l3, l4, l5, l6, l7, l8, l9, l10, l11, l12] st h = jv_ev call 5 22 [l0, l1, l2, l3, l4, l5, l6, l7, l8, l9, l10, l11, l12] (.int (nI 2000) :: st) h := je_sipush D5_19 rfl (by decide)
theorem D5_22 : decode (jt_code 5) 22 = .ok (.if_icmp .le 5, 3) := by decide +kernel
theorem E5_22 {call : jv_F} {l0 l1 l2 l3 l4 l5 l6 l7 l8 l9 l10 l11 l12 : Option Value} {x y : Int32} {st : List Value} {h : jv_H} : jv_ev call 5 22 [l0, l1, l2, l3, l4, l5, l6, l7, l8, l9, l10, l11, l12] (.int y :: .int x :: st) h = if x ≤ y then jv_ev call 5 27 [l0, l1, l2, l3, l4, l5, l6, l7, l8, l9, l10, l11, l12] st h else jv_ev call 5 25 [l0, l1, l2, l3, l4, l5, l6, l7, l8, l9, l10, l11, l12] st h := je_icmp D5_22 (by decide) rfl rfl
theorem D5_25 : decode (jt_code 5) 25 = .ok (.iconst (-1), 1) := by decide +kernel
theorem E5_25 {call : jv_F} {l0 l1 l2 l3 l4 l5 l6 l7 l8 l9 l10 l11 l12 : Option Value}  {st : List Value} {h : jv_H} : jv_ev call 5 25 [l0, l1, l2, l3, l4, l5, l6, l7, l8, l9, l10, l11, l12] st h = jv_ev call 5 26 [l0, l1, l2, l3, l4, l5, l6, l7, l8, l9, l10, l11, l12] (.int (-1) :: st) h := je_iconst D5_25 rfl (by decide)
theorem D5_26 : decode (jt_code 5) 26 = .ok (.ireturn, 1) := by decide +kernel
theorem E5_26 {call : jv_F} {l0 l1 l2 l3 l4 l5 l6 l7 l8 l9 l10 l11 l12 : Option Value} {v : Int32} {h : jv_H} : jv_ev call 5 26 [l0, l1, l2, l3, l4, l5, l6, l7, l8, l9, l10, l11, l12] [.int v] h = some (some (.int v), h) := je_iret (ty := .int) D5_26 rfl rfl rfl
theorem D5_27 : decode (jt_code 5) 27 = .ok (.iconst 0, 1) := by decide +kernel
theorem E5_27 {call : jv_F} {l0 l1 l2 l3 l4 l5 l6 l7 l8 l9 l10 l11 l12 : Option Value}  {st : List Value} {h : jv_H} : jv_ev call 5 27 [l0, l1, l2, l3, l4, l5, l6, l7, l8, l9, l10, l11, l12] st h = jv_ev call 5 28 [l0, l1, l2, l3, l4, l5, l6, l7, l8, l9, l10, l11, l12] (.int (nI 0) :: st) h := je_iconst D5_27 rfl (by decide)
theorem D5_28 : decode (jt_code 5) 28 = .ok (.istore 10, 2) := by decide +kernel
theorem E5_28 {call : jv_F} {l0 l1 l2 l3 l4 l5 l6 l7 l8 l9 l10 l11 l12 : Option Value} {x : Int32} {st : List Value} {h : jv_H} (hk : ¬ jv_is2 (some l9) = true) : jv_ev call 5 28 [l0, l1, l2, l3, l4, l5, l6, l7, l8, l9, l10, l11, l12] (.int x :: st) h = jv_ev call 5 30 [l0, l1, l2, l3, l4, l5, l6, l7, l8, l9, some (.int x), l11, l12] st h := je_istore D5_28 rfl (Nat.le_of_ble_eq_true rfl) (by show jv_st1 _ 10 _ = _; simp only [jv_st1, jv_kill, List.getElem?_cons_succ, List.getElem?_cons_zero, hk, if_false]; rfl)
theorem D5_30 : decode (jt_code 5) 30 = .ok (.iload 10, 2) := by decide +kernel
theorem E5_30 {call : jv_F} {l0 l1 l2 l3 l4 l5 l6 l7 l8 l9 l11 l12 : Option Value} {x : Int32} {st : List Value} {h : jv_H} : jv_ev call 5 30 [l0, l1, l2, l3, l4, l5, l6, l7, l8, l9, some (.int x), l11, l12] st h = jv_ev call 5 32 [l0, l1, l2, l3, l4, l5, l6, l7, l8, l9, some (.int x), l11, l12] (.int x :: st) h := je_iload D5_30 rfl rfl
theorem D5_32 : decode (jt_code 5) 32 = .ok (.iload 9, 2) := by decide +kernel
theorem E5_32 {call : jv_F} {l0 l1 l2 l3 l4 l5 l6 l7 l8 l10 l11 l12 : Option Value} {x : Int32} {st : List Value} {h : jv_H} : jv_ev call 5 32 [l0, l1, l2, l3, l4, l5, l6, l7, l8, some (.int x), l10, l11, l12] st h = jv_ev call 5 34 [l0, l1, l2, l3, l4, l5, l6, l7, l8, some (.int x), l10, l11, l12] (.int x :: st) h := je_iload D5_32 rfl rfl
theorem D5_34 : decode (jt_code 5) 34 = .ok (.if_icmp .ge 85, 3) := by decide +kernel
theorem E5_34 {call : jv_F} {l0 l1 l2 l3 l4 l5 l6 l7 l8 l9 l10 l11 l12 : Option Value} {x y : Int32} {st : List Value} {h : jv_H} : jv_ev call 5 34 [l0, l1, l2, l3, l4, l5, l6, l7, l8, l9, l10, l11, l12] (.int y :: .int x :: st) h = if y ≤ x then jv_ev call 5 119 [l0, l1, l2, l3, l4, l5, l6, l7, l8, l9, l10, l11, l12] st h else jv_ev call 5 37 [l0, l1, l2, l3, l4, l5, l6, l7, l8, l9, l10, l11, l12] st h := je_icmp D5_34 (by decide) rfl rfl
theorem D5_37 : decode (jt_code 5) 37 = .ok (.iload 10, 2) := by decide +kernel
theorem E5_37 {call : jv_F} {l0 l1 l2 l3 l4 l5 l6 l7 l8 l9 l11 l12 : Option Value} {x : Int32} {st : List Value} {h : jv_H} : jv_ev call 5 37 [l0, l1, l2, l3, l4, l5, l6, l7, l8, l9, some (.int x), l11, l12] st h = jv_ev call 5 39 [l0, l1, l2, l3, l4, l5, l6, l7, l8, l9, some (.int x), l11, l12] (.int x :: st) h := je_iload D5_37 rfl rfl
theorem D5_39 : decode (jt_code 5) 39 = .ok (.bipush 8, 2) := by decide +kernel
theorem E5_39 {call : jv_F} {l0 l1 l2 l3 l4 l5 l6 l7 l8 l9 l10 l11 l12 : Option Value}  {st : List Value} {h : jv_H} : jv_ev call 5 39 [l0, l1, l2, l3, l4, l5, l6, l7, l8, l9, l10, l11, l12] st h = jv_ev call 5 41 [l0, l1, l2, l3, l4, l5, l6, l7, l8, l9, l10, l11, l12] (.int (nI 8) :: st) h := je_bipush D5_39 rfl (by decide)
theorem D5_41 : decode (jt_code 5) 41 = .ok (.if_icmp .ge 7, 3) := by decide +kernel
theorem E5_41 {call : jv_F} {l0 l1 l2 l3 l4 l5 l6 l7 l8 l9 l10 l11 l12 : Option Value} {x y : Int32} {st : List Value} {h : jv_H} : jv_ev call 5 41 [l0, l1, l2, l3, l4, l5, l6, l7, l8, l9, l10, l11, l12] (.int y :: .int x :: st) h = if y ≤ x then jv_ev call 5 48 [l0, l1, l2, l3, l4, l5, l6, l7, l8, l9, l10, l11, l12] st h else jv_ev call 5 44 [l0, l1, l2, l3, l4, l5, l6, l7, l8, l9, l10, l11, l12] st h := je_icmp D5_41 (by decide) rfl rfl
theorem D5_44 : decode (jt_code 5) 44 = .ok (.lload_n 1, 1) := by decide +kernel
theorem E5_44 {call : jv_F} {l0 l2 l3 l4 l5 l6 l7 l8 l9 l10 l11 l12 : Option Value} {x : Int64} {st : List Value} {h : jv_H} : jv_ev call 5 44 [l0, some (.long x), l2, l3, l4, l5, l6, l7, l8, l9, l10, l11, l12] st h = jv_ev call 5 45 [l0, some (.long x), l2, l3, l4, l5, l6, l7, l8, l9, l10, l11, l12] (.long x :: st) h := je_lload_n D5_44 rfl rfl
theorem D5_45 : decode (jt_code 5) 45 = .ok (.goto 28, 3) := by decide +kernel
theorem E5_45 {call : jv_F} {l0 l1 l2 l3 l4 l5 l6 l7 l8 l9 l10 l11 l12 : Option Value}  {st : List Value} {h : jv_H} : jv_ev call 5 45 [l0, l1, l2, l3, l4, l5, l6, l7, l8, l9, l10, l11, l12] st h = jv_ev call 5 73 [l0, l1, l2, l3, l4, l5, l6, l7, l8, l9, l10, l11, l12] st h := je_goto D5_45 (by decide)
theorem D5_48 : decode (jt_code 5) 48 = .ok (.iload 10, 2) := by decide +kernel
theorem E5_48 {call : jv_F} {l0 l1 l2 l3 l4 l5 l6 l7 l8 l9 l11 l12 : Option Value} {x : Int32} {st : List Value} {h : jv_H} : jv_ev call 5 48 [l0, l1, l2, l3, l4, l5, l6, l7, l8, l9, some (.int x), l11, l12] st h = jv_ev call 5 50 [l0, l1, l2, l3, l4, l5, l6, l7, l8, l9, some (.int x), l11, l12] (.int x :: st) h := je_iload D5_48 rfl rfl
theorem D5_50 : decode (jt_code 5) 50 = .ok (.bipush 16, 2) := by decide +kernel
theorem E5_50 {call : jv_F} {l0 l1 l2 l3 l4 l5 l6 l7 l8 l9 l10 l11 l12 : Option Value}  {st : List Value} {h : jv_H} : jv_ev call 5 50 [l0, l1, l2, l3, l4, l5, l6, l7, l8, l9, l10, l11, l12] st h = jv_ev call 5 52 [l0, l1, l2, l3, l4, l5, l6, l7, l8, l9, l10, l11, l12] (.int (nI 16) :: st) h := je_bipush D5_50 rfl (by decide)
theorem D5_52 : decode (jt_code 5) 52 = .ok (.if_icmp .ge 7, 3) := by decide +kernel
theorem E5_52 {call : jv_F} {l0 l1 l2 l3 l4 l5 l6 l7 l8 l9 l10 l11 l12 : Option Value} {x y : Int32} {st : List Value} {h : jv_H} : jv_ev call 5 52 [l0, l1, l2, l3, l4, l5, l6, l7, l8, l9, l10, l11, l12] (.int y :: .int x :: st) h = if y ≤ x then jv_ev call 5 59 [l0, l1, l2, l3, l4, l5, l6, l7, l8, l9, l10, l11, l12] st h else jv_ev call 5 55 [l0, l1, l2, l3, l4, l5, l6, l7, l8, l9, l10, l11, l12] st h := je_icmp D5_52 (by decide) rfl rfl
theorem D5_55 : decode (jt_code 5) 55 = .ok (.lload_n 3, 1) := by decide +kernel
theorem E5_55 {call : jv_F} {l0 l1 l2 l4 l5 l6 l7 l8 l9 l10 l11 l12 : Option Value} {x : Int64} {st : List Value} {h : jv_H} : jv_ev call 5 55 [l0, l1, l2, some (.long x), l4, l5, l6, l7, l8, l9, l10, l11, l12] st h = jv_ev call 5 56 [l0, l1, l2, some (.long x), l4, l5, l6, l7, l8, l9, l10, l11, l12] (.long x :: st) h := je_lload_n D5_55 rfl rfl
theorem D5_56 : decode (jt_code 5) 56 = .ok (.goto 17, 3) := by decide +kernel
theorem E5_56 {call : jv_F} {l0 l1 l2 l3 l4 l5 l6 l7 l8 l9 l10 l11 l12 : Option Value}  {st : List Value} {h : jv_H} : jv_ev call 5 56 [l0, l1, l2, l3, l4, l5, l6, l7, l8, l9, l10, l11, l12] st h = jv_ev call 5 73 [l0, l1, l2, l3, l4, l5, l6, l7, l8, l9, l10, l11, l12] st h := je_goto D5_56 (by decide)
theorem D5_59 : decode (jt_code 5) 59 = .ok (.iload 10, 2) := by decide +kernel
theorem E5_59 {call : jv_F} {l0 l1 l2 l3 l4 l5 l6 l7 l8 l9 l11 l12 : Option Value} {x : Int32} {st : List Value} {h : jv_H} : jv_ev call 5 59 [l0, l1, l2, l3, l4, l5, l6, l7, l8, l9, some (.int x), l11, l12] st h = jv_ev call 5 61 [l0, l1, l2, l3, l4, l5, l6, l7, l8, l9, some (.int x), l11, l12] (.int x :: st) h := je_iload D5_59 rfl rfl
theorem D5_61 : decode (jt_code 5) 61 = .ok (.bipush 24, 2) := by decide +kernel
theorem E5_61 {call : jv_F} {l0 l1 l2 l3 l4 l5 l6 l7 l8 l9 l10 l11 l12 : Option Value}  {st : List Value} {h : jv_H} : jv_ev call 5 61 [l0, l1, l2, l3, l4, l5, l6, l7, l8, l9, l10, l11, l12] st h = jv_ev call 5 63 [l0, l1, l2, l3, l4, l5, l6, l7, l8, l9, l10, l11, l12] (.int (nI 24) :: st) h := je_bipush D5_61 rfl (by decide)
theorem D5_63 : decode (jt_code 5) 63 = .ok (.if_icmp .ge 8, 3) := by decide +kernel
theorem E5_63 {call : jv_F} {l0 l1 l2 l3 l4 l5 l6 l7 l8 l9 l10 l11 l12 : Option Value} {x y : Int32} {st : List Value} {h : jv_H} : jv_ev call 5 63 [l0, l1, l2, l3, l4, l5, l6, l7, l8, l9, l10, l11, l12] (.int y :: .int x :: st) h = if y ≤ x then jv_ev call 5 71 [l0, l1, l2, l3, l4, l5, l6, l7, l8, l9, l10, l11, l12] st h else jv_ev call 5 66 [l0, l1, l2, l3, l4, l5, l6, l7, l8, l9, l10, l11, l12] st h := je_icmp D5_63 (by decide) rfl rfl
theorem D5_66 : decode (jt_code 5) 66 = .ok (.lload 5, 2) := by decide +kernel
theorem E5_66 {call : jv_F} {l0 l1 l2 l3 l4 l6 l7 l8 l9 l10 l11 l12 : Option Value} {x : Int64} {st : List Value} {h : jv_H} : jv_ev call 5 66 [l0, l1, l2, l3, l4, some (.long x), l6, l7, l8, l9, l10, l11, l12] st h = jv_ev call 5 68 [l0, l1, l2, l3, l4, some (.long x), l6, l7, l8, l9, l10, l11, l12] (.long x :: st) h := je_lload D5_66 rfl rfl
theorem D5_68 : decode (jt_code 5) 68 = .ok (.goto 5, 3) := by decide +kernel
theorem E5_68 {call : jv_F} {l0 l1 l2 l3 l4 l5 l6 l7 l8 l9 l10 l11 l12 : Option Value}  {st : List Value} {h : jv_H} : jv_ev call 5 68 [l0, l1, l2, l3, l4, l5, l6, l7, l8, l9, l10, l11, l12] st h = jv_ev call 5 73 [l0, l1, l2, l3, l4, l5, l6, l7, l8, l9, l10, l11, l12] st h := je_goto D5_68 (by decide)
theorem D5_71 : decode (jt_code 5) 71 = .ok (.lload 7, 2) := by decide +kernel
theorem E5_71 {call : jv_F} {l0 l1 l2 l3 l4 l5 l6 l8 l9 l10 l11 l12 : Option Value} {x : Int64} {st : List Value} {h : jv_H} : jv_ev call 5 71 [l0, l1, l2, l3, l4, l5, l6, some (.long x), l8, l9, l10, l11, l12] st h = jv_ev call 5 73 [l0, l1, l2, l3, l4, l5, l6, some (.long x), l8, l9, l10, l11, l12] (.long x :: st) h := je_lload D5_71 rfl rfl
theorem D5_73 : decode (jt_code 5) 73 = .ok (.lstore 11, 2) := by decide +kernel
theorem E5_73 {call : jv_F} {l0 l1 l2 l3 l4 l5 l6 l7 l8 l9 l10 l11 l12 : Option Value} {x : Int64} {st : List Value} {h : jv_H} (hk : ¬ jv_is2 (some l10) = true) : jv_ev call 5 73 [l0, l1, l2, l3, l4, l5, l6, l7, l8, l9, l10, l11, l12] (.long x :: st) h = jv_ev call 5 75 [l0, l1, l2, l3, l4, l5, l6, l7, l8, l9, l10, some (.long x), none] st h := je_lstore D5_73 rfl (Nat.le_of_ble_eq_true rfl) (by show jv_st2 _ 11 _ = _; simp only [jv_st2, jv_kill, List.getElem?_cons_succ, List.getElem?_cons_zero, hk, if_false]; rfl)
theorem D5_75 : decode (jt_code 5) 75 = .ok (.aload_n 0, 1) := by decide +kernel
theorem E5_75 {call : jv_F} {l1 l2 l3 l4 l5 l6 l7 l8 l9 l10 l11 l12 : Option Value} {a : Nat} {st : List Value} {h : jv_H} : jv_ev call 5 75 [some (.ref a), l1, l2, l3, l4, l5, l6, l7, l8, l9, l10, l11, l12] st h = jv_ev call 5 76 [some (.ref a), l1, l2, l3, l4, l5, l6, l7, l8, l9, l10, l11, l12] (.ref a :: st) h := je_aload_n (r := some a) D5_75 rfl rfl
theorem D5_76 : decode (jt_code 5) 76 = .ok (.getfield 17, 3) := by decide +kernel
theorem E5_76 {call : jv_F} {l0 l1 l2 l3 l4 l5 l6 l7 l8 l9 l10 l11 l12 : Option Value}  {st : List Value} {m : Nat} {I : Nat → Int32} {A : Nat → Nat → Int32} {L : Nat → Nat → Int64} {rest : Nat → Option jv_C} {z : Nat × Nat} : jv_ev call 5 76 [l0, l1, l2, l3, l4, l5, l6, l7, l8, l9, l10, l11, l12] (.ref m :: st) (jm_H m I A L rest z) = jv_ev call 5 79 [l0, l1, l2, l3, l4, l5, l6, l7, l8, l9, l10, l11, l12] (.ref (m + 2) :: st) (jm_H m I A L rest z) := je_get D5_76 rfl (by decide) jm_g3
theorem D5_79 : decode (jt_code 5) 79 = .ok (.aload_n 0, 1) := by decide +kernel
theorem E5_79 {call : jv_F} {l1 l2 l3 l4 l5 l6 l7 l8 l9 l10 l11 l12 : Option Value} {a : Nat} {st : List Value} {h : jv_H} : jv_ev call 5 79 [some (.ref a), l1, l2, l3, l4, l5, l6, l7, l8, l9, l10, l11, l12] st h = jv_ev call 5 80 [some (.ref a), l1, l2, l3, l4, l5, l6, l7, l8, l9, l10, l11, l12] (.ref a :: st) h := je_aload_n (r := some a) D5_79 rfl rfl
theorem D5_80 : decode (jt_code 5) 80 = .ok (.getfield 107, 3) := by decide +kernel
theorem E5_80 {call : jv_F} {l0 l1 l2 l3 l4 l5 l6 l7 l8 l9 l10 l11 l12 : Option Value}  {st : List Value} {m : Nat} {I : Nat → Int32} {A : Nat → Nat → Int32} {L : Nat → Nat → Int64} {rest : Nat → Option jv_C} {z : Nat × Nat} : jv_ev call 5 80 [l0, l1, l2, l3, l4, l5, l6, l7, l8, l9, l10, l11, l12] (.ref m :: st) (jm_H m I A L rest z) = jv_ev call 5 83 [l0, l1, l2, l3, l4, l5, l6, l7, l8, l9, l10, l11, l12] (.int (I 4) :: st) (jm_H m I A L rest z) := je_get D5_80 rfl (by decide) jm_g4
theorem D5_83 : decode (jt_code 5) 83 = .ok (.lload 11, 2) := by decide +kernel
theorem E5_83 {call : jv_F} {l0 l1 l2 l3 l4 l5 l6 l7 l8 l9 l10 l12 : Option Value} {x : Int64} {st : List Value} {h : jv_H} : jv_ev call 5 83 [l0, l1, l2, l3, l4, l5, l6, l7, l8, l9, l10, some (.long x), l12] st h = jv_ev call 5 85 [l0, l1, l2, l3, l4, l5, l6, l7, l8, l9, l10, some (.long x), l12] (.long x :: st) h := je_lload D5_83 rfl rfl
theorem D5_85 : decode (jt_code 5) 85 = .ok (.bipush 56, 2) := by decide +kernel
theorem E5_85 {call : jv_F} {l0 l1 l2 l3 l4 l5 l6 l7 l8 l9 l10 l11 l12 : Option Value}  {st : List Value} {h : jv_H} : jv_ev call 5 85 [l0, l1, l2, l3, l4, l5, l6, l7, l8, l9, l10, l11, l12] st h = jv_ev call 5 87 [l0, l1, l2, l3, l4, l5, l6, l7, l8, l9, l10, l11, l12] (.int (nI 56) :: st) h := je_bipush D5_85 rfl (by decide)
theorem D5_87 : decode (jt_code 5) 87 = .ok (.bipush 8, 2) := by decide +kernel
theorem E5_87 {call : jv_F} {l0 l1 l2 l3 l4 l5 l6 l7 l8 l9 l10 l11 l12 : Option Value}  {st : List Value} {h : jv_H} : jv_ev call 5 87 [l0, l1, l2, l3, l4, l5, l6, l7, l8, l9, l10, l11, l12] st h = jv_ev call 5 89 [l0, l1, l2, l3, l4, l5, l6, l7, l8, l9, l10, l11, l12] (.int (nI 8) :: st) h := je_bipush D5_87 rfl (by decide)
theorem D5_89 : decode (jt_code 5) 89 = .ok (.iload 10, 2) := by decide +kernel
theorem E5_89 {call : jv_F} {l0 l1 l2 l3 l4 l5 l6 l7 l8 l9 l11 l12 : Option Value} {x : Int32} {st : List Value} {h : jv_H} : jv_ev call 5 89 [l0, l1, l2, l3, l4, l5, l6, l7, l8, l9, some (.int x), l11, l12] st h = jv_ev call 5 91 [l0, l1, l2, l3, l4, l5, l6, l7, l8, l9, some (.int x), l11, l12] (.int x :: st) h := je_iload D5_89 rfl rfl
theorem D5_91 : decode (jt_code 5) 91 = .ok (.bipush 8, 2) := by decide +kernel
theorem E5_91 {call : jv_F} {l0 l1 l2 l3 l4 l5 l6 l7 l8 l9 l10 l11 l12 : Option Value}  {st : List Value} {h : jv_H} : jv_ev call 5 91 [l0, l1, l2, l3, l4, l5, l6, l7, l8, l9, l10, l11, l12] st h = jv_ev call 5 93 [l0, l1, l2, l3, l4, l5, l6, l7, l8, l9, l10, l11, l12] (.int (nI 8) :: st) h := je_bipush D5_91 rfl (by decide)
theorem D5_93 : decode (jt_code 5) 93 = .ok (.irem, 1) := by decide +kernel
theorem E5_93 {call : jv_F} {l0 l1 l2 l3 l4 l5 l6 l7 l8 l9 l10 l11 l12 : Option Value} {x y : Int32} {st : List Value} {h : jv_H} (hy : ¬ y = 0) : jv_ev call 5 93 [l0, l1, l2, l3, l4, l5, l6, l7, l8, l9, l10, l11, l12] (.int y :: .int x :: st) h = jv_ev call 5 94 [l0, l1, l2, l3, l4, l5, l6, l7, l8, l9, l10, l11, l12] (.int (x - x / y * y) :: st) h := je_irem D5_93 rfl hy
theorem D5_94 : decode (jt_code 5) 94 = .ok (.imul, 1) := by decide +kernel
theorem E5_94 {call : jv_F} {l0 l1 l2 l3 l4 l5 l6 l7 l8 l9 l10 l11 l12 : Option Value} {x y : Int32} {st : List Value} {h : jv_H} : jv_ev call 5 94 [l0, l1, l2, l3, l4, l5, l6, l7, l8, l9, l10, l11, l12] (.int y :: .int x :: st) h = jv_ev call 5 95 [l0, l1, l2, l3, l4, l5, l6, l7, l8, l9, l10, l11, l12] (.int (x * y) :: st) h := je_b2 (f := fun x y => x * y) D5_94 rfl (fun _ => rfl)
theorem D5_95 : decode (jt_code 5) 95 = .ok (.isub, 1) := by decide +kernel
theorem E5_95 {call : jv_F} {l0 l1 l2 l3 l4 l5 l6 l7 l8 l9 l10 l11 l12 : Option Value} {x y : Int32} {st : List Value} {h : jv_H} : jv_ev call 5 95 [l0, l1, l2, l3, l4, l5, l6, l7, l8, l9, l10, l11, l12] (.int y :: .int x :: st) h = jv_ev call 5 96 [l0, l1, l2, l3, l4, l5, l6, l7, l8, l9, l10, l11, l12] (.int (x - y) :: st) h := je_b2 (f := fun x y => x - y) D5_95 rfl (fun _ => rfl)
theorem D5_96 : decode (jt_code 5) 96 = .ok (.lshr, 1) := by decide +kernel
theorem E5_96 {call : jv_F} {l0 l1 l2 l3 l4 l5 l6 l7 l8 l9 l10 l11 l12 : Option Value} {x : Int64} {y : Int32} {st : List Value} {h : jv_H} : jv_ev call 5 96 [l0, l1, l2, l3, l4, l5, l6, l7, l8, l9, l10, l11, l12] (.int y :: .long x :: st) h = jv_ev call 5 97 [l0, l1, l2, l3, l4, l5, l6, l7, l8, l9, l10, l11, l12] (.long (x >>> (y.toInt64 &&& 63)) :: st) h := je_lshr D5_96 rfl
theorem D5_97 : decode (jt_code 5) 97 = .ok (.l2i, 1) := by decide +kernel
theorem E5_97 {call : jv_F} {l0 l1 l2 l3 l4 l5 l6 l7 l8 l9 l10 l11 l12 : Option Value} {x : Int64} {st : List Value} {h : jv_H} : jv_ev call 5 97 [l0, l1, l2, l3, l4, l5, l6, l7, l8, l9, l10, l11, l12] (.long x :: st) h = jv_ev call 5 98 [l0, l1, l2, l3, l4, l5, l6, l7, l8, l9, l10, l11, l12] (.int x.toInt32 :: st) h := je_l2i D5_97 rfl
theorem D5_98 : decode (jt_code 5) 98 = .ok (.sipush 255, 3) := by decide +kernel
theorem E5_98 {call : jv_F} {l0 l1 l2 l3 l4 l5 l6 l7 l8 l9 l10 l11 l12 : Option Value}  {st : List Value} {h : jv_H} : jv_ev call 5 98 [l0, l1, l2, l3, l4, l5, l6, l7, l8, l9, l10, l11, l12] st h = jv_ev call 5 101 [l0, l1, l2, l3, l4, l5, l6, l7, l8, l9, l10, l11, l12] (.int (nI 255) :: st) h := je_sipush D5_98 rfl (by decide)
theorem D5_101 : decode (jt_code 5) 101 = .ok (.iand, 1) := by decide +kernel
theorem E5_101 {call : jv_F} {l0 l1 l2 l3 l4 l5 l6 l7 l8 l9 l10 l11 l12 : Option Value} {x y : Int32} {st : List Value} {h : jv_H} : jv_ev call 5 101 [l0, l1, l2, l3, l4, l5, l6, l7, l8, l9, l10, l11, l12] (.int y :: .int x :: st) h = jv_ev call 5 102 [l0, l1, l2, l3, l4, l5, l6, l7, l8, l9, l10, l11, l12] (.int (x &&& y) :: st) h := je_b2 (f := fun x y => x &&& y) D5_101 rfl (fun _ => rfl)
theorem D5_102 : decode (jt_code 5) 102 = .ok (.iastore, 1) := by decide +kernel
theorem E5_102 {call : jv_F} {l0 l1 l2 l3 l4 l5 l6 l7 l8 l9 l10 l11 l12 : Option Value} {i : Nat} {v : Int32} {st : List Value} {m : Nat} {I : Nat → Int32} {A : Nat → Nat → Int32} {L : Nat → Nat → Int64} {rest : Nat → Option jv_C} {z : Nat × Nat} (hi : i < 2000) : jv_ev call 5 102 [l0, l1, l2, l3, l4, l5, l6, l7, l8, l9, l10, l11, l12] (.int v :: .int (nI i) :: .ref (m + 2) :: st) (jm_H m I A L rest z) = jv_ev call 5 103 [l0, l1, l2, l3, l4, l5, l6, l7, l8, l9, l10, l11, l12] st (jm_H m I (va_up A 3 (upd (A 3) i v)) L rest z) := je_iast D5_102 rfl (jm_s3 hi)
theorem D5_103 : decode (jt_code 5) 103 = .ok (.aload_n 0, 1) := by decide +kernel
theorem E5_103 {call : jv_F} {l1 l2 l3 l4 l5 l6 l7 l8 l9 l10 l11 l12 : Option Value} {a : Nat} {st : List Value} {h : jv_H} : jv_ev call 5 103 [some (.ref a), l1, l2, l3, l4, l5, l6, l7, l8, l9, l10, l11, l12] st h = jv_ev call 5 104 [some (.ref a), l1, l2, l3, l4, l5, l6, l7, l8, l9, l10, l11, l12] (.ref a :: st) h := je_aload_n (r := some a) D5_103 rfl rfl
theorem D5_104 : decode (jt_code 5) 104 = .ok (.dup, 1) := by decide +kernel
theorem E5_104 {call : jv_F} {l0 l1 l2 l3 l4 l5 l6 l7 l8 l9 l10 l11 l12 : Option Value} {a : Nat} {st : List Value} {h : jv_H} : jv_ev call 5 104 [l0, l1, l2, l3, l4, l5, l6, l7, l8, l9, l10, l11, l12] (.ref a :: st) h = jv_ev call 5 105 [l0, l1, l2, l3, l4, l5, l6, l7, l8, l9, l10, l11, l12] (.ref a :: .ref a :: st) h := je_dup D5_104 rfl rfl
theorem E5_104i {call : jv_F} {l0 l1 l2 l3 l4 l5 l6 l7 l8 l9 l10 l11 l12 : Option Value} {x : Int32} {st : List Value} {h : jv_H} : jv_ev call 5 104 [l0, l1, l2, l3, l4, l5, l6, l7, l8, l9, l10, l11, l12] (.int x :: st) h = jv_ev call 5 105 [l0, l1, l2, l3, l4, l5, l6, l7, l8, l9, l10, l11, l12] (.int x :: .int x :: st) h := je_dup D5_104 rfl rfl
theorem D5_105 : decode (jt_code 5) 105 = .ok (.getfield 107, 3) := by decide +kernel
theorem E5_105 {call : jv_F} {l0 l1 l2 l3 l4 l5 l6 l7 l8 l9 l10 l11 l12 : Option Value}  {st : List Value} {m : Nat} {I : Nat → Int32} {A : Nat → Nat → Int32} {L : Nat → Nat → Int64} {rest : Nat → Option jv_C} {z : Nat × Nat} : jv_ev call 5 105 [l0, l1, l2, l3, l4, l5, l6, l7, l8, l9, l10, l11, l12] (.ref m :: st) (jm_H m I A L rest z) = jv_ev call 5 108 [l0, l1, l2, l3, l4, l5, l6, l7, l8, l9, l10, l11, l12] (.int (I 4) :: st) (jm_H m I A L rest z) := je_get D5_105 rfl (by decide) jm_g4
theorem D5_108 : decode (jt_code 5) 108 = .ok (.iconst 1, 1) := by decide +kernel
theorem E5_108 {call : jv_F} {l0 l1 l2 l3 l4 l5 l6 l7 l8 l9 l10 l11 l12 : Option Value}  {st : List Value} {h : jv_H} : jv_ev call 5 108 [l0, l1, l2, l3, l4, l5, l6, l7, l8, l9, l10, l11, l12] st h = jv_ev call 5 109 [l0, l1, l2, l3, l4, l5, l6, l7, l8, l9, l10, l11, l12] (.int (nI 1) :: st) h := je_iconst D5_108 rfl (by decide)
theorem D5_109 : decode (jt_code 5) 109 = .ok (.iadd, 1) := by decide +kernel
theorem E5_109 {call : jv_F} {l0 l1 l2 l3 l4 l5 l6 l7 l8 l9 l10 l11 l12 : Option Value} {x y : Int32} {st : List Value} {h : jv_H} : jv_ev call 5 109 [l0, l1, l2, l3, l4, l5, l6, l7, l8, l9, l10, l11, l12] (.int y :: .int x :: st) h = jv_ev call 5 110 [l0, l1, l2, l3, l4, l5, l6, l7, l8, l9, l10, l11, l12] (.int (x + y) :: st) h := je_b2 (f := fun x y => x + y) D5_109 rfl (fun _ => rfl)
theorem D5_110 : decode (jt_code 5) 110 = .ok (.putfield 107, 3) := by decide +kernel
theorem E5_110 {call : jv_F} {l0 l1 l2 l3 l4 l5 l6 l7 l8 l9 l10 l11 l12 : Option Value} {v : Int32} {st : List Value} {m : Nat} {I : Nat → Int32} {A : Nat → Nat → Int32} {L : Nat → Nat → Int64} {rest : Nat → Option jv_C} {z : Nat × Nat} : jv_ev call 5 110 [l0, l1, l2, l3, l4, l5, l6, l7, l8, l9, l10, l11, l12] (.int v :: .ref m :: st) (jm_H m I A L rest z) = jv_ev call 5 113 [l0, l1, l2, l3, l4, l5, l6, l7, l8, l9, l10, l11, l12] st (jm_H m (upd I 4 v) A L rest z) := je_put D5_110 rfl (by decide) (by decide) jm_p4
theorem D5_113 : decode (jt_code 5) 113 = .ok (.iinc 10 1, 3) := by decide +kernel
theorem E5_113 {call : jv_F} {l0 l1 l2 l3 l4 l5 l6 l7 l8 l9 l11 l12 : Option Value} {x : Int32} {st : List Value} {h : jv_H} (hk : ¬ jv_is2 (some l9) = true) : jv_ev call 5 113 [l0, l1, l2, l3, l4, l5, l6, l7, l8, l9, some (.int x), l11, l12] st h = jv_ev call 5 116 [l0, l1, l2, l3, l4, l5, l6, l7, l8, l9, some (.int (x + (nI 1))), l11, l12] st h := je_iinc D5_113 rfl rfl (v := x + (nI 1)) (by rfl) (by show jv_st1 _ 10 _ = _; simp only [jv_st1, jv_kill, List.getElem?_cons_succ, List.getElem?_cons_zero, hk, if_false]; rfl)
theorem D5_116 : decode (jt_code 5) 116 = .ok (.goto (-86), 3) := by decide +kernel
theorem E5_116 {call : jv_F} {l0 l1 l2 l3 l4 l5 l6 l7 l8 l9 l10 l11 l12 : Option Value}  {st : List Value} {h : jv_H} : jv_ev call 5 116 [l0, l1, l2, l3, l4, l5, l6, l7, l8, l9, l10, l11, l12] st h = jv_ev call 5 30 [l0, l1, l2, l3, l4, l5, l6, l7, l8, l9, l10, l11, l12] st h := je_goto D5_116 (by decide)
theorem D5_119 : decode (jt_code 5) 119 = .ok (.aload_n 0, 1) := by decide +kernel
theorem E5_119 {call : jv_F} {l1 l2 l3 l4 l5 l6 l7 l8 l9 l10 l11 l12 : Option Value} {a : Nat} {st : List Value} {h : jv_H} : jv_ev call 5 119 [some (.ref a), l1, l2, l3, l4, l5, l6, l7, l8, l9, l10, l11, l12] st h = jv_ev call 5 120 [some (.ref a), l1, l2, l3, l4, l5, l6, l7, l8, l9, l10, l11, l12] (.ref a :: st) h := je_aload_n (r := some a) D5_119 rfl rfl
theorem D5_120 : decode (jt_code 5) 120 = .ok (.getfield 107, 3) := by decide +kernel
theorem E5_120 {call : jv_F} {l0 l1 l2 l3 l4 l5 l6 l7 l8 l9 l10 l11 l12 : Option Value}  {st : List Value} {m : Nat} {I : Nat → Int32} {A : Nat → Nat → Int32} {L : Nat → Nat → Int64} {rest : Nat → Option jv_C} {z : Nat × Nat} : jv_ev call 5 120 [l0, l1, l2, l3, l4, l5, l6, l7, l8, l9, l10, l11, l12] (.ref m :: st) (jm_H m I A L rest z) = jv_ev call 5 123 [l0, l1, l2, l3, l4, l5, l6, l7, l8, l9, l10, l11, l12] (.int (I 4) :: st) (jm_H m I A L rest z) := je_get D5_120 rfl (by decide) jm_g4
theorem D5_123 : decode (jt_code 5) 123 = .ok (.ireturn, 1) := by decide +kernel
theorem E5_123 {call : jv_F} {l0 l1 l2 l3 l4 l5 l6 l7 l8 l9 l10 l11 l12 : Option Value} {v : Int32} {h : jv_H} : jv_ev call 5 123 [l0, l1, l2, l3, l4, l5, l6, l7, l8, l9, l10, l11, l12] [.int v] h = some (some (.int v), h) := je_iret (ty := .int) D5_123 rfl rfl rfl
/-! method 6: DrumMachineModel.job -/
theorem N6 {d : Nat} {b : Nat} {a0 : Int32} {a1 : Int32} {h : jv_H} : jv_run (d + 1) 6 [.ref b, .int a0, .int a1] h = jv_ev (jv_run d) 6 0 [some (.ref b), some (.int a0), some (.int a1), none, none, none, none] [] h := jv_run_eq (Nat.le_of_ble_eq_true rfl) rfl
theorem D6_0 : decode (jt_code 6) 0 = .ok (.aload_n 0, 1) := by decide +kernel
theorem E6_0 {call : jv_F} {l1 l2 l3 l4 l5 l6 : Option Value} {a : Nat} {st : List Value} {h : jv_H} : jv_ev call 6 0 [some (.ref a), l1, l2, l3, l4, l5, l6] st h = jv_ev call 6 1 [some (.ref a), l1, l2, l3, l4, l5, l6] (.ref a :: st) h := je_aload_n (r := some a) D6_0 rfl rfl
theorem D6_1 : decode (jt_code 6) 1 = .ok (.getfield 97, 3) := by decide +kernel
theorem E6_1 {call : jv_F} {l0 l1 l2 l3 l4 l5 l6 : Option Value}  {st : List Value} {m : Nat} {I : Nat → Int32} {A : Nat → Nat → Int32} {L : Nat → Nat → Int64} {rest : Nat → Option jv_C} {z : Nat × Nat} : jv_ev call 6 1 [l0, l1, l2, l3, l4, l5, l6] (.ref m :: st) (jm_H m I A L rest z) = jv_ev call 6 4 [l0, l1, l2, l3, l4, l5, l6] (.int (I 5) :: st) (jm_H m I A L rest z) := je_get D6_1 rfl (by decide) jm_g5
theorem D6_4 : decode (jt_code 6) 4 = .ok (.bipush 12, 2) := by decide +kernel
theorem E6_4 {call : jv_F} {l0 l1 l2 l3 l4 l5 l6 : Option Value}  {st : List Value} {h : jv_H} : jv_ev call 6 4 [l0, l1, l2, l3, l4, l5, l6] st h = jv_ev call 6 6 [l0, l1, l2, l3, l4, l5, l6] (.int (nI 12) :: st) h := je_bipush D6_4 rfl (by decide)
theorem D6_6 : decode (jt_code 6) 6 = .ok (.if_icmp .eq 28, 3) := by decide +kernel
theorem E6_6 {call : jv_F} {l0 l1 l2 l3 l4 l5 l6 : Option Value} {x y : Int32} {st : List Value} {h : jv_H} : jv_ev call 6 6 [l0, l1, l2, l3, l4, l5, l6] (.int y :: .int x :: st) h = if x = y then jv_ev call 6 34 [l0, l1, l2, l3, l4, l5, l6] st h else jv_ev call 6 9 [l0, l1, l2, l3, l4, l5, l6] st h := je_icmp D6_6 (by decide) rfl rfl
theorem D6_9 : decode (jt_code 6) 9 = .ok (.iload_n 1, 1) := by decide +kernel
theorem E6_9 {call : jv_F} {l0 l2 l3 l4 l5 l6 : Option Value} {x : Int32} {st : List Value} {h : jv_H} : jv_ev call 6 9 [l0, some (.int x), l2, l3, l4, l5, l6] st h = jv_ev call 6 10 [l0, some (.int x), l2, l3, l4, l5, l6] (.int x :: st) h := je_iload_n D6_9 rfl rfl
theorem D6_10 : decode (jt_code 6) 10 = .ok (.iconst 1, 1) := by decide +kernel
theorem E6_10 {call : jv_F} {l0 l1 l2 l3 l4 l5 l6 : Option Value}  {st : List Value} {h : jv_H} : jv_ev call 6 10 [l0, l1, l2, l3, l4, l5, l6] st h = jv_ev call 6 11 [l0, l1, l2, l3, l4, l5, l6] (.int (nI 1) :: st) h := je_iconst D6_10 rfl (by decide)
theorem D6_11 : decode (jt_code 6) 11 = .ok (.if_icmp .lt 23, 3) := by decide +kernel
theorem E6_11 {call : jv_F} {l0 l1 l2 l3 l4 l5 l6 : Option Value} {x y : Int32} {st : List Value} {h : jv_H} : jv_ev call 6 11 [l0, l1, l2, l3, l4, l5, l6] (.int y :: .int x :: st) h = if x < y then jv_ev call 6 34 [l0, l1, l2, l3, l4, l5, l6] st h else jv_ev call 6 14 [l0, l1, l2, l3, l4, l5, l6] st h := je_icmp D6_11 (by decide) rfl rfl
theorem D6_14 : decode (jt_code 6) 14 = .ok (.iload_n 1, 1) := by decide +kernel
theorem E6_14 {call : jv_F} {l0 l2 l3 l4 l5 l6 : Option Value} {x : Int32} {st : List Value} {h : jv_H} : jv_ev call 6 14 [l0, some (.int x), l2, l3, l4, l5, l6] st h = jv_ev call 6 15 [l0, some (.int x), l2, l3, l4, l5, l6] (.int x :: st) h := je_iload_n D6_14 rfl rfl
theorem D6_15 : decode (jt_code 6) 15 = .ok (.sipush 10000, 3) := by decide +kernel
theorem E6_15 {call : jv_F} {l0 l1 l2 l3 l4 l5 l6 : Option Value}  {st : List Value} {h : jv_H} : jv_ev call 6 15 [l0, l1, l2, l3, l4, l5, l6] st h = jv_ev call 6 18 [l0, l1, l2, l3, l4, l5, l6] (.int (nI 10000) :: st) h := je_sipush D6_15 rfl (by decide)
theorem D6_18 : decode (jt_code 6) 18 = .ok (.if_icmp .gt 16, 3) := by decide +kernel
theorem E6_18 {call : jv_F} {l0 l1 l2 l3 l4 l5 l6 : Option Value} {x y : Int32} {st : List Value} {h : jv_H} : jv_ev call 6 18 [l0, l1, l2, l3, l4, l5, l6] (.int y :: .int x :: st) h = if y < x then jv_ev call 6 34 [l0, l1, l2, l3, l4, l5, l6] st h else jv_ev call 6 21 [l0, l1, l2, l3, l4, l5, l6] st h := je_icmp D6_18 (by decide) rfl rfl
theorem D6_21 : decode (jt_code 6) 21 = .ok (.iload_n 2, 1) := by decide +kernel
theorem E6_21 {call : jv_F} {l0 l1 l3 l4 l5 l6 : Option Value} {x : Int32} {st : List Value} {h : jv_H} : jv_ev call 6 21 [l0, l1, some (.int x), l3, l4, l5, l6] st h = jv_ev call 6 22 [l0, l1, some (.int x), l3, l4, l5, l6] (.int x :: st) h := je_iload_n D6_21 rfl rfl
theorem D6_22 : decode (jt_code 6) 22 = .ok (.iconst 1, 1) := by decide +kernel
theorem E6_22 {call : jv_F} {l0 l1 l2 l3 l4 l5 l6 : Option Value}  {st : List Value} {h : jv_H} : jv_ev call 6 22 [l0, l1, l2, l3, l4, l5, l6] st h = jv_ev call 6 23 [l0, l1, l2, l3, l4, l5, l6] (.int (nI 1) :: st) h := je_iconst D6_22 rfl (by decide)
theorem D6_23 : decode (jt_code 6) 23 = .ok (.if_icmp .lt 11, 3) := by decide +kernel
theorem E6_23 {call : jv_F} {l0 l1 l2 l3 l4 l5 l6 : Option Value} {x y : Int32} {st : List Value} {h : jv_H} : jv_ev call 6 23 [l0, l1, l2, l3, l4, l5, l6] (.int y :: .int x :: st) h = if x < y then jv_ev call 6 34 [l0, l1, l2, l3, l4, l5, l6] st h else jv_ev call 6 26 [l0, l1, l2, l3, l4, l5, l6] st h := je_icmp D6_23 (by decide) rfl rfl
theorem D6_26 : decode (jt_code 6) 26 = .ok (.iload_n 2, 1) := by decide +kernel
theorem E6_26 {call : jv_F} {l0 l1 l3 l4 l5 l6 : Option Value} {x : Int32} {st : List Value} {h : jv_H} : jv_ev call 6 26 [l0, l1, some (.int x), l3, l4, l5, l6] st h = jv_ev call 6 27 [l0, l1, some (.int x), l3, l4, l5, l6] (.int x :: st) h := je_iload_n D6_26 rfl rfl
theorem D6_27 : decode (jt_code 6) 27 = .ok (.aload_n 0, 1) := by decide +kernel
theorem E6_27 {call : jv_F} {l1 l2 l3 l4 l5 l6 : Option Value} {a : Nat} {st : List Value} {h : jv_H} : jv_ev call 6 27 [some (.ref a), l1, l2, l3, l4, l5, l6] st h = jv_ev call 6 28 [some (.ref a), l1, l2, l3, l4, l5, l6] (.ref a :: st) h := je_aload_n (r := some a) D6_27 rfl rfl
theorem D6_28 : decode (jt_code 6) 28 = .ok (.getfield 100, 3) := by decide +kernel
theorem E6_28 {call : jv_F} {l0 l1 l2 l3 l4 l5 l6 : Option Value}  {st : List Value} {m : Nat} {I : Nat → Int32} {A : Nat → Nat → Int32} {L : Nat → Nat → Int64} {rest : Nat → Option jv_C} {z : Nat × Nat} : jv_ev call 6 28 [l0, l1, l2, l3, l4, l5, l6] (.ref m :: st) (jm_H m I A L rest z) = jv_ev call 6 31 [l0, l1, l2, l3, l4, l5, l6] (.int (I 2) :: st) (jm_H m I A L rest z) := je_get D6_28 rfl (by decide) jm_g2
theorem D6_31 : decode (jt_code 6) 31 = .ok (.if_icmp .le 5, 3) := by decide +kernel
theorem E6_31 {call : jv_F} {l0 l1 l2 l3 l4 l5 l6 : Option Value} {x y : Int32} {st : List Value} {h : jv_H} : jv_ev call 6 31 [l0, l1, l2, l3, l4, l5, l6] (.int y :: .int x :: st) h = if x ≤ y then jv_ev call 6 36 [l0, l1, l2, l3, l4, l5, l6] st h else jv_ev call 6 34 [l0, l1, l2, l3, l4, l5, l6] st h := je_icmp D6_31 (by decide) rfl rfl
theorem D6_34 : decode (jt_code 6) 34 = .ok (.iconst (-1), 1) := by decide +kernel
theorem E6_34 {call : jv_F} {l0 l1 l2 l3 l4 l5 l6 : Option Value}  {st : List Value} {h : jv_H} : jv_ev call 6 34 [l0, l1, l2, l3, l4, l5, l6] st h = jv_ev call 6 35 [l0, l1, l2, l3, l4, l5, l6] (.int (-1) :: st) h := je_iconst D6_34 rfl (by decide)
theorem D6_35 : decode (jt_code 6) 35 = .ok (.ireturn, 1) := by decide +kernel
theorem E6_35 {call : jv_F} {l0 l1 l2 l3 l4 l5 l6 : Option Value} {v : Int32} {h : jv_H} : jv_ev call 6 35 [l0, l1, l2, l3, l4, l5, l6] [.int v] h = some (some (.int v), h) := je_iret (ty := .int) D6_35 rfl rfl rfl
theorem D6_36 : decode (jt_code 6) 36 = .ok (.iload_n 2, 1) := by decide +kernel
theorem E6_36 {call : jv_F} {l0 l1 l3 l4 l5 l6 : Option Value} {x : Int32} {st : List Value} {h : jv_H} : jv_ev call 6 36 [l0, l1, some (.int x), l3, l4, l5, l6] st h = jv_ev call 6 37 [l0, l1, some (.int x), l3, l4, l5, l6] (.int x :: st) h := je_iload_n D6_36 rfl rfl
theorem D6_37 : decode (jt_code 6) 37 = .ok (.bipush 15, 2) := by decide +kernel
theorem E6_37 {call : jv_F} {l0 l1 l2 l3 l4 l5 l6 : Option Value}  {st : List Value} {h : jv_H} : jv_ev call 6 37 [l0, l1, l2, l3, l4, l5, l6] st h = jv_ev call 6 39 [l0, l1, l2, l3, l4, l5, l6] (.int (nI 15) :: st) h := je_bipush D6_37 rfl (by decide)
theorem D6_39 : decode (jt_code 6) 39 = .ok (.iadd, 1) := by decide +kernel
theorem E6_39 {call : jv_F} {l0 l1 l2 l3 l4 l5 l6 : Option Value} {x y : Int32} {st : List Value} {h : jv_H} : jv_ev call 6 39 [l0, l1, l2, l3, l4, l5, l6] (.int y :: .int x :: st) h = jv_ev call 6 40 [l0, l1, l2, l3, l4, l5, l6] (.int (x + y) :: st) h := je_b2 (f := fun x y => x + y) D6_39 rfl (fun _ => rfl)
theorem D6_40 : decode (jt_code 6) 40 = .ok (.bipush 16, 2) := by decide +kernel
theorem E6_40 {call : jv_F} {l0 l1 l2 l3 l4 l5 l6 : Option Value}  {st : List Value} {h : jv_H} : jv_ev call 6 40 [l0, l1, l2, l3, l4, l5, l6] st h = jv_ev call 6 42 [l0, l1, l2, l3, l4, l5, l6] (.int (nI 16) :: st) h := je_bipush D6_40 rfl (by decide)
theorem D6_42 : decode (jt_code 6) 42 = .ok (.idiv, 1) := by decide +kernel
theorem E6_42 {call : jv_F} {l0 l1 l2 l3 l4 l5 l6 : Option Value} {x y : Int32} {st : List Value} {h : jv_H} (hy : ¬ y = 0) : jv_ev call 6 42 [l0, l1, l2, l3, l4, l5, l6] (.int y :: .int x :: st) h = jv_ev call 6 43 [l0, l1, l2, l3, l4, l5, l6] (.int (x / y) :: st) h := je_idiv D6_42 rfl hy
theorem D6_43 : decode (jt_code 6) 43 = .ok (.istore_n 3, 1) := by decide +kernel
theorem E6_43 {call : jv_F} {l0 l1 l2 l3 l4 l5 l6 : Option Value} {x : Int32} {st : List Value} {h : jv_H} (hk : ¬ jv_is2 (some l2) = true) : jv_ev call 6 43 [l0, l1, l2, l3, l4, l5, l6] (.int x :: st) h = jv_ev call 6 44 [l0, l1, l2, some (.int x), l4, l5, l6] st h := je_istore_n D6_43 rfl (Nat.le_of_ble_eq_true rfl) (by show jv_st1 _ 3 _ = _; simp only [jv_st1, jv_kill, List.getElem?_cons_succ, List.getElem?_cons_zero, hk, if_false]; rfl)
theorem D6_44 : decode (jt_code 6) 44 = .ok (.aload_n 0, 1) := by decide +kernel
theorem E6_44 {call : jv_F} {l1 l2 l3 l4 l5 l6 : Option Value} {a : Nat} {st : List Value} {h : jv_H} : jv_ev call 6 44 [some (.ref a), l1, l2, l3, l4, l5, l6] st h = jv_ev call 6 45 [some (.ref a), l1, l2, l3, l4, l5, l6] (.ref a :: st) h := je_aload_n (r := some a) D6_44 rfl rfl
theorem D6_45 : decode (jt_code 6) 45 = .ok (.getfield 110, 3) := by decide +kernel
theorem E6_45 {call : jv_F} {l0 l1 l2 l3 l4 l5 l6 : Option Value}  {st : List Value} {m : Nat} {I : Nat → Int32} {A : Nat → Nat → Int32} {L : Nat → Nat → Int64} {rest : Nat → Option jv_C} {z : Nat × Nat} : jv_ev call 6 45 [l0, l1, l2, l3, l4, l5, l6] (.ref m :: st) (jm_H m I A L rest z) = jv_ev call 6 48 [l0, l1, l2, l3, l4, l5, l6] (.int (I 22) :: st) (jm_H m I A L rest z) := je_get D6_45 rfl (by decide) jm_g22
theorem D6_48 : decode (jt_code 6) 48 = .ok (.iload_n 3, 1) := by decide +kernel
theorem E6_48 {call : jv_F} {l0 l1 l2 l4 l5 l6 : Option Value} {x : Int32} {st : List Value} {h : jv_H} : jv_ev call 6 48 [l0, l1, l2, some (.int x), l4, l5, l6] st h = jv_ev call 6 49 [l0, l1, l2, some (.int x), l4, l5, l6] (.int x :: st) h := je_iload_n D6_48 rfl rfl
theorem D6_49 : decode (jt_code 6) 49 = .ok (.iadd, 1) := by decide +kernel
theorem E6_49 {call : jv_F} {l0 l1 l2 l3 l4 l5 l6 : Option Value} {x y : Int32} {st : List Value} {h : jv_H} : jv_ev call 6 49 [l0, l1, l2, l3, l4, l5, l6] (.int y :: .int x :: st) h = jv_ev call 6 50 [l0, l1, l2, l3, l4, l5, l6] (.int (x + y) :: st) h := je_b2 (f := fun x y => x + y) D6_49 rfl (fun _ => rfl)
theorem D6_50 : decode (jt_code 6) 50 = .ok (.bipush 64, 2) := by decide +kernel
theorem E6_50 {call : jv_F} {l0 l1 l2 l3 l4 l5 l6 : Option Value}  {st : List Value} {h : jv_H} : jv_ev call 6 50 [l0, l1, l2, l3, l4, l5, l6] st h = jv_ev call 6 52 [l0, l1, l2, l3, l4, l5, l6] (.int (nI 64) :: st) h := je_bipush D6_50 rfl (by decide)
theorem D6_52 : decode (jt_code 6) 52 = .ok (.if_icmp .le 5, 3) := by decide +kernel
theorem E6_52 {call : jv_F} {l0 l1 l2 l3 l4 l5 l6 : Option Value} {x y : Int32} {st : List Value} {h : jv_H} : jv_ev call 6 52 [l0, l1, l2, l3, l4, l5, l6] (.int y :: .int x :: st) h = if x ≤ y then jv_ev call 6 57 [l0, l1, l2, l3, l4, l5, l6] st h else jv_ev call 6 55 [l0, l1, l2, l3, l4, l5, l6] st h := je_icmp D6_52 (by decide) rfl rfl
theorem D6_55 : decode (jt_code 6) 55 = .ok (.iconst (-1), 1) := by decide +kernel
theorem E6_55 {call : jv_F} {l0 l1 l2 l3 l4 l5 l6 : Option Value}  {st : List Value} {h : jv_H} : jv_ev call 6 55 [l0, l1, l2, l3, l4, l5, l6] st h = jv_ev call 6 56 [l0, l1, l2, l3, l4, l5, l6] (.int (-1) :: st) h := je_iconst D6_55 rfl (by decide)
theorem D6_56 : decode (jt_code 6) 56 = .ok (.ireturn, 1) := by decide +kernel
theorem E6_56 {call : jv_F} {l0 l1 l2 l3 l4 l5 l6 : Option Value} {v : Int32} {h : jv_H} : jv_ev call 6 56 [l0, l1, l2, l3, l4, l5, l6] [.int v] h = some (some (.int v), h) := je_iret (ty := .int) D6_56 rfl rfl rfl
theorem D6_57 : decode (jt_code 6) 57 = .ok (.aload_n 0, 1) := by decide +kernel
theorem E6_57 {call : jv_F} {l1 l2 l3 l4 l5 l6 : Option Value} {a : Nat} {st : List Value} {h : jv_H} : jv_ev call 6 57 [some (.ref a), l1, l2, l3, l4, l5, l6] st h = jv_ev call 6 58 [some (.ref a), l1, l2, l3, l4, l5, l6] (.ref a :: st) h := je_aload_n (r := some a) D6_57 rfl rfl
theorem D6_58 : decode (jt_code 6) 58 = .ok (.getfield 97, 3) := by decide +kernel
theorem E6_58 {call : jv_F} {l0 l1 l2 l3 l4 l5 l6 : Option Value}  {st : List Value} {m : Nat} {I : Nat → Int32} {A : Nat → Nat → Int32} {L : Nat → Nat → Int64} {rest : Nat → Option jv_C} {z : Nat × Nat} : jv_ev call 6 58 [l0, l1, l2, l3, l4, l5, l6] (.ref m :: st) (jm_H m I A L rest z) = jv_ev call 6 61 [l0, l1, l2, l3, l4, l5, l6] (.int (I 5) :: st) (jm_H m I A L rest z) := je_get D6_58 rfl (by decide) jm_g5
theorem D6_61 : decode (jt_code 6) 61 = .ok (.istore 4, 2) := by decide +kernel
theorem E6_61 {call : jv_F} {l0 l1 l2 l3 l4 l5 l6 : Option Value} {x : Int32} {st : List Value} {h : jv_H} (hk : ¬ jv_is2 (some l3) = true) : jv_ev call 6 61 [l0, l1, l2, l3, l4, l5, l6] (.int x :: st) h = jv_ev call 6 63 [l0, l1, l2, l3, some (.int x), l5, l6] st h := je_istore D6_61 rfl (Nat.le_of_ble_eq_true rfl) (by show jv_st1 _ 4 _ = _; simp only [jv_st1, jv_kill, List.getElem?_cons_succ, List.getElem?_cons_zero, hk, if_false]; rfl)
theorem D6_63 : decode (jt_code 6) 63 = .ok (.aload_n 0, 1) := by decide +kernel
theorem E6_63 {call : jv_F} {l1 l2 l3 l4 l5 l6 : Option Value} {a : Nat} {st : List Value} {h : jv_H} : jv_ev call 6 63 [some (.ref a), l1, l2, l3, l4, l5, l6] st h = jv_ev call 6 64 [some (.ref a), l1, l2, l3, l4, l5, l6] (.ref a :: st) h := je_aload_n (r := some a) D6_63 rfl rfl
theorem D6_64 : decode (jt_code 6) 64 = .ok (.dup, 1) := by decide +kernel
theorem E6_64 {call : jv_F} {l0 l1 l2 l3 l4 l5 l6 : Option Value} {a : Nat} {st : List Value} {h : jv_H} : jv_ev call 6 64 [l0, l1, l2, l3, l4, l5, l6] (.ref a :: st) h = jv_ev call 6 65 [l0, l1, l2, l3, l4, l5, l6] (.ref a :: .ref a :: st) h := je_dup D6_64 rfl rfl
theorem E6_64i {call : jv_F} {l0 l1 l2 l3 l4 l5 l6 : Option Value} {x : Int32} {st : List Value} {h : jv_H} : jv_ev call 6 64 [l0, l1, l2, l3, l4, l5, l6] (.int x :: st) h = jv_ev call 6 65 [l0, l1, l2, l3, l4, l5, l6] (.int x :: .int x :: st) h := je_dup D6_64 rfl rfl
theorem D6_65 : decode (jt_code 6) 65 = .ok (.getfield 97, 3) := by decide +kernel
theorem E6_65 {call : jv_F} {l0 l1 l2 l3 l4 l5 l6 : Option Value}  {st : List Value} {m : Nat} {I : Nat → Int32} {A : Nat → Nat → Int32} {L : Nat → Nat → Int64} {rest : Nat → Option jv_C} {z : Nat × Nat} : jv_ev call 6 65 [l0, l1, l2, l3, l4, l5, l6] (.ref m :: st) (jm_H m I A L rest z) = jv_ev call 6 68 [l0, l1, l2, l3, l4, l5, l6] (.int (I 5) :: st) (jm_H m I A L rest z) := je_get D6_65 rfl (by decide) jm_g5
theorem D6_68 : decode (jt_code 6) 68 = .ok (.iconst 1, 1) := by decide +kernel
theorem E6_68 {call : jv_F} {l0 l1 l2 l3 l4 l5 l6 : Option Value}  {st : List Value} {h : jv_H} : jv_ev call 6 68 [l0, l1, l2, l3, l4, l5, l6] st h = jv_ev call 6 69 [l0, l1, l2, l3, l4, l5, l6] (.int (nI 1) :: st) h := je_iconst D6_68 rfl (by decide)
theorem D6_69 : decode (jt_code 6) 69 = .ok (.iadd, 1) := by decide +kernel
theorem E6_69 {call : jv_F} {l0 l1 l2 l3 l4 l5 l6 : Option Value} {x y : Int32} {st : List Value} {h : jv_H} : jv_ev call 6 69 [l0, l1, l2, l3, l4, l5, l6] (.int y :: .int x :: st) h = jv_ev call 6 70 [l0, l1, l2, l3, l4, l5, l6] (.int (x + y) :: st) h := je_b2 (f := fun x y => x + y) D6_69 rfl (fun _ => rfl)
theorem D6_70 : decode (jt_code 6) 70 = .ok (.putfield 97, 3) := by decide +kernel
theorem E6_70 {call : jv_F} {l0 l1 l2 l3 l4 l5 l6 : Option Value} {v : Int32} {st : List Value} {m : Nat} {I : Nat → Int32} {A : Nat → Nat → Int32} {L : Nat → Nat → Int64} {rest : Nat → Option jv_C} {z : Nat × Nat} : jv_ev call 6 70 [l0, l1, l2, l3, l4, l5, l6] (.int v :: .ref m :: st) (jm_H m I A L rest z) = jv_ev call 6 73 [l0, l1, l2, l3, l4, l5, l6] st (jm_H m (upd I 5 v) A L rest z) := je_put D6_70 rfl (by decide) (by decide) jm_p5
theorem D6_73 : decode (jt_code 6) 73 = .ok (.aload_n 0, 1) := by decide +kernel
theorem E6_73 {call : jv_F} {l1 l2 l3 l4 l5 l6 : Option Value} {a : Nat} {st : List Value} {h : jv_H} : jv_ev call 6 73 [some (.ref a), l1, l2, l3, l4, l5, l6] st h = jv_ev call 6 74 [some (.ref a), l1, l2, l3, l4, l5, l6] (.ref a :: st) h := je_aload_n (r := some a) D6_73 rfl rfl
theorem D6_74 : decode (jt_code 6) 74 = .ok (.getfield 21, 3) := by decide +kernel
theorem E6_74 {call : jv_F} {l0 l1 l2 l3 l4 l5 l6 : Option Value}  {st : List Value} {m : Nat} {I : Nat → Int32} {A : Nat → Nat → Int32} {L : Nat → Nat → Int64} {rest : Nat → Option jv_C} {z : Nat × Nat} : jv_ev call 6 74 [l0, l1, l2, l3, l4, l5, l6] (.ref m :: st) (jm_H m I A L rest z) = jv_ev call 6 77 [l0, l1, l2, l3, l4, l5, l6] (.ref (m + 3) :: st) (jm_H m I A L rest z) := je_get D6_74 rfl (by decide) jm_g6
theorem D6_77 : decode (jt_code 6) 77 = .ok (.iload 4, 2) := by decide +kernel
theorem E6_77 {call : jv_F} {l0 l1 l2 l3 l5 l6 : Option Value} {x : Int32} {st : List Value} {h : jv_H} : jv_ev call 6 77 [l0, l1, l2, l3, some (.int x), l5, l6] st h = jv_ev call 6 79 [l0, l1, l2, l3, some (.int x), l5, l6] (.int x :: st) h := je_iload D6_77 rfl rfl
theorem D6_79 : decode (jt_code 6) 79 = .ok (.iload_n 1, 1) := by decide +kernel
theorem E6_79 {call : jv_F} {l0 l2 l3 l4 l5 l6 : Option Value} {x : Int32} {st : List Value} {h : jv_H} : jv_ev call 6 79 [l0, some (.int x), l2, l3, l4, l5, l6] st h = jv_ev call 6 80 [l0, some (.int x), l2, l3, l4, l5, l6] (.int x :: st) h := je_iload_n D6_79 rfl rfl
theorem D6_80 : decode (jt_code 6) 80 = .ok (.iastore, 1) := by decide +kernel
theorem E6_80 {call : jv_F} {l0 l1 l2 l3 l4 l5 l6 : Option Value} {i : Nat} {v : Int32} {st : List Value} {m : Nat} {I : Nat → Int32} {A : Nat → Nat → Int32} {L : Nat → Nat → Int64} {rest : Nat → Option jv_C} {z : Nat × Nat} (hi : i < 12) : jv_ev call 6 80 [l0, l1, l2, l3, l4, l5, l6] (.int v :: .int (nI i) :: .ref (m + 3) :: st) (jm_H m I A L rest z) = jv_ev call 6 81 [l0, l1, l2, l3, l4, l5, l6] st (jm_H m I (va_up A 6 (upd (A 6) i v)) L rest z) := je_iast D6_80 rfl (jm_s6 hi)
theorem D6_81 : decode (jt_code 6) 81 = .ok (.iconst 0, 1) := by decide +kernel
theorem E6_81 {call : jv_F} {l0 l1 l2 l3 l4 l5 l6 : Option Value}  {st : List Value} {h : jv_H} : jv_ev call 6 81 [l0, l1, l2, l3, l4, l5, l6] st h = jv_ev call 6 82 [l0, l1, l2, l3, l4, l5, l6] (.int (nI 0) :: st) h := je_iconst D6_81 rfl (by decide)
theorem D6_82 : decode (jt_code 6) 82 = .ok (.istore 5, 2) := by decide +kernel
theorem E6_82 {call : jv_F} {l0 l1 l2 l3 l4 l5 l6 : Option Value} {x : Int32} {st : List Value} {h : jv_H} (hk : ¬ jv_is2 (some l4) = true) : jv_ev call 6 82 [l0, l1, l2, l3, l4, l5, l6] (.int x :: st) h = jv_ev call 6 84 [l0, l1, l2, l3, l4, some (.int x), l6] st h := je_istore D6_82 rfl (Nat.le_of_ble_eq_true rfl) (by show jv_st1 _ 5 _ = _; simp only [jv_st1, jv_kill, List.getElem?_cons_succ, List.getElem?_cons_zero, hk, if_false]; rfl)
theorem D6_84 : decode (jt_code 6) 84 = .ok (.iload 5, 2) := by decide +kernel
theorem E6_84 {call : jv_F} {l0 l1 l2 l3 l4 l6 : Option Value} {x : Int32} {st : List Value} {h : jv_H} : jv_ev call 6 84 [l0, l1, l2, l3, l4, some (.int x), l6] st h = jv_ev call 6 86 [l0, l1, l2, l3, l4, some (.int x), l6] (.int x :: st) h := je_iload D6_84 rfl rfl
theorem D6_86 : decode (jt_code 6) 86 = .ok (.iload_n 2, 1) := by decide +kernel
theorem E6_86 {call : jv_F} {l0 l1 l3 l4 l5 l6 : Option Value} {x : Int32} {st : List Value} {h : jv_H} : jv_ev call 6 86 [l0, l1, some (.int x), l3, l4, l5, l6] st h = jv_ev call 6 87 [l0, l1, some (.int x), l3, l4, l5, l6] (.int x :: st) h := je_iload_n D6_86 rfl rfl
theorem D6_87 : decode (jt_code 6) 87 = .ok (.if_icmp .ge 30, 3) := by decide +kernel
theorem E6_87 {call : jv_F} {l0 l1 l2 l3 l4 l5 l6 : Option Value} {x y : Int32} {st : List Value} {h : jv_H} : jv_ev call 6 87 [l0, l1, l2, l3, l4, l5, l6] (.int y :: .int x :: st) h = if y ≤ x then jv_ev call 6 117 [l0, l1, l2, l3, l4, l5, l6] st h else jv_ev call 6 90 [l0, l1, l2, l3, l4, l5, l6] st h := je_icmp D6_87 (by decide) rfl rfl
theorem D6_90 : decode (jt_code 6) 90 = .ok (.aload_n 0, 1) := by decide +kernel
theorem E6_90 {call : jv_F} {l1 l2 l3 l4 l5 l6 : Option Value} {a : Nat} {st : List Value} {h : jv_H} : jv_ev call 6 90 [some (.ref a), l1, l2, l3, l4, l5, l6] st h = jv_ev call 6 91 [some (.ref a), l1, l2, l3, l4, l5, l6] (.ref a :: st) h := je_aload_n (r := some a) D6_90 rfl rfl
theorem D6_91 : decode (jt_code 6) 91 = .ok (.getfield 39, 3) := by decide +kernel
theorem E6_91 {call : jv_F} {l0 l1 l2 l3 l4 l5 l6 : Option Value}  {st : List Value} {m : Nat} {I : Nat → Int32} {A : Nat → Nat → Int32} {L : Nat → Nat → Int64} {rest : Nat → Option jv_C} {z : Nat × Nat} : jv_ev call 6 91 [l0, l1, l2, l3, l4, l5, l6] (.ref m :: st) (jm_H m I A L rest z) = jv_ev call 6 94 [l0, l1, l2, l3, l4, l5, l6] (.ref (m + 9) :: st) (jm_H m I A L rest z) := je_get D6_91 rfl (by decide) jm_g12
theorem D6_94 : decode (jt_code 6) 94 = .ok (.sipush 1024, 3) := by decide +kernel
theorem E6_94 {call : jv_F} {l0 l1 l2 l3 l4 l5 l6 : Option Value}  {st : List Value} {h : jv_H} : jv_ev call 6 94 [l0, l1, l2, l3, l4, l5, l6] st h = jv_ev call 6 97 [l0, l1, l2, l3, l4, l5, l6] (.int (nI 1024) :: st) h := je_sipush D6_94 rfl (by decide)
theorem D6_97 : decode (jt_code 6) 97 = .ok (.iload 4, 2) := by decide +kernel
theorem E6_97 {call : jv_F} {l0 l1 l2 l3 l5 l6 : Option Value} {x : Int32} {st : List Value} {h : jv_H} : jv_ev call 6 97 [l0, l1, l2, l3, some (.int x), l5, l6] st h = jv_ev call 6 99 [l0, l1, l2, l3, some (.int x), l5, l6] (.int x :: st) h := je_iload D6_97 rfl rfl
theorem D6_99 : decode (jt_code 6) 99 = .ok (.imul, 1) := by decide +kernel
theorem E6_99 {call : jv_F} {l0 l1 l2 l3 l4 l5 l6 : Option Value} {x y : Int32} {st : List Value} {h : jv_H} : jv_ev call 6 99 [l0, l1, l2, l3, l4, l5, l6] (.int y :: .int x :: st) h = jv_ev call 6 100 [l0, l1, l2, l3, l4, l5, l6] (.int (x * y) :: st) h := je_b2 (f := fun x y => x * y) D6_99 rfl (fun _ => rfl)
theorem D6_100 : decode (jt_code 6) 100 = .ok (.iload 5, 2) := by decide +kernel
theorem E6_100 {call : jv_F} {l0 l1 l2 l3 l4 l6 : Option Value} {x : Int32} {st : List Value} {h : jv_H} : jv_ev call 6 100 [l0, l1, l2, l3, l4, some (.int x), l6] st h = jv_ev call 6 102 [l0, l1, l2, l3, l4, some (.int x), l6] (.int x :: st) h := je_iload D6_100 rfl rfl
theorem D6_102 : decode (jt_code 6) 102 = .ok (.iadd, 1) := by decide +kernel
theorem E6_102 {call : jv_F} {l0 l1 l2 l3 l4 l5 l6 : Option Value} {x y : Int32} {st : List Value} {h : jv_H} : jv_ev call 6 102 [l0, l1, l2, l3, l4, l5, l6] (.int y :: .int x :: st) h = jv_ev call 6 103 [l0, l1, l2, l3, l4, l5, l6] (.int (x + y) :: st) h := je_b2 (f := fun x y => x + y) D6_102 rfl (fun _ => rfl)
theorem D6_103 : decode (jt_code 6) 103 = .ok (.aload_n 0, 1) := by decide +kernel
theorem E6_103 {call : jv_F} {l1 l2 l3 l4 l5 l6 : Option Value} {a : Nat} {st : List Value} {h : jv_H} : jv_ev call 6 103 [some (.ref a), l1, l2, l3, l4, l5, l6] st h = jv_ev call 6 104 [some (.ref a), l1, l2, l3, l4, l5, l6] (.ref a :: st) h := je_aload_n (r := some a) D6_103 rfl rfl
theorem D6_104 : decode (jt_code 6) 104 = .ok (.getfield 13, 3) := by decide +kernel
theorem E6_104 {call : jv_F} {l0 l1 l2 l3 l4 l5 l6 : Option Value}  {st : List Value} {m : Nat} {I : Nat → Int32} {A : Nat → Nat → Int32} {L : Nat → Nat → Int64} {rest : Nat → Option jv_C} {z : Nat × Nat} : jv_ev call 6 104 [l0, l1, l2, l3, l4, l5, l6] (.ref m :: st) (jm_H m I A L rest z) = jv_ev call 6 107 [l0, l1, l2, l3, l4, l5, l6] (.ref (m + 1) :: st) (jm_H m I A L rest z) := je_get D6_104 rfl (by decide) jm_g1
theorem D6_107 : decode (jt_code 6) 107 = .ok (.iload 5, 2) := by decide +kernel
theorem E6_107 {call : jv_F} {l0 l1 l2 l3 l4 l6 : Option Value} {x : Int32} {st : List Value} {h : jv_H} : jv_ev call 6 107 [l0, l1, l2, l3, l4, some (.int x), l6] st h = jv_ev call 6 109 [l0, l1, l2, l3, l4, some (.int x), l6] (.int x :: st) h := je_iload D6_107 rfl rfl
theorem D6_109 : decode (jt_code 6) 109 = .ok (.laload, 1) := by decide +kernel
theorem E6_109 {call : jv_F} {l0 l1 l2 l3 l4 l5 l6 : Option Value} {i : Nat} {st : List Value} {m : Nat} {I : Nat → Int32} {A : Nat → Nat → Int32} {L : Nat → Nat → Int64} {rest : Nat → Option jv_C} {z : Nat × Nat} (hi : i < 1000) : jv_ev call 6 109 [l0, l1, l2, l3, l4, l5, l6] (.int (nI i) :: .ref (m + 1) :: st) (jm_H m I A L rest z) = jv_ev call 6 110 [l0, l1, l2, l3, l4, l5, l6] (.long (L 1 i) :: st) (jm_H m I A L rest z) := je_lald D6_109 rfl (jm_l1 hi)
theorem D6_110 : decode (jt_code 6) 110 = .ok (.lastore, 1) := by decide +kernel
theorem E6_110 {call : jv_F} {l0 l1 l2 l3 l4 l5 l6 : Option Value} {i : Nat} {v : Int64} {st : List Value} {m : Nat} {I : Nat → Int32} {A : Nat → Nat → Int32} {L : Nat → Nat → Int64} {rest : Nat → Option jv_C} {z : Nat × Nat} (hi : i < 12288) : jv_ev call 6 110 [l0, l1, l2, l3, l4, l5, l6] (.long v :: .int (nI i) :: .ref (m + 9) :: st) (jm_H m I A L rest z) = jv_ev call 6 111 [l0, l1, l2, l3, l4, l5, l6] st (jm_H m I A (va_up L 12 (vp_updL (L 12) i v)) rest z) := je_last D6_110 rfl (jm_s12 hi)
theorem D6_111 : decode (jt_code 6) 111 = .ok (.iinc 5 1, 3) := by decide +kernel
theorem E6_111 {call : jv_F} {l0 l1 l2 l3 l4 l6 : Option Value} {x : Int32} {st : List Value} {h : jv_H} (hk : ¬ jv_is2 (some l4) = true) : jv_ev call 6 111 [l0, l1, l2, l3, l4, some (.int x), l6] st h = jv_ev call 6 114 [l0, l1, l2, l3, l4, some (.int (x + (nI 1))), l6] st h := je_iinc D6_111 rfl rfl (v := x + (nI 1)) (by rfl) (by show jv_st1 _ 5 _ = _; simp only [jv_st1, jv_kill, List.getElem?_cons_succ, List.getElem?_cons_zero, hk, if_false]; rfl)
theorem D6_114 : decode (jt_code 6) 114 = .ok (.goto (-30), 3) := by decide +kernel
theorem E6_114 {call : jv_F} {l0 l1 l2 l3 l4 l5 l6 : Option Value}  {st : List Value} {h : jv_H} : jv_ev call 6 114 [l0, l1, l2, l3, l4, l5, l6] st h = jv_ev call 6 84 [l0, l1, l2, l3, l4, l5, l6] st h := je_goto D6_114 (by decide)
theorem D6_117 : decode (jt_code 6) 117 = .ok (.iconst 0, 1) := by decide +kernel
theorem E6_117 {call : jv_F} {l0 l1 l2 l3 l4 l5 l6 : Option Value}  {st : List Value} {h : jv_H} : jv_ev call 6 117 [l0, l1, l2, l3, l4, l5, l6] st h = jv_ev call 6 118 [l0, l1, l2, l3, l4, l5, l6] (.int (nI 0) :: st) h := je_iconst D6_117 rfl (by decide)
theorem D6_118 : decode (jt_code 6) 118 = .ok (.istore 5, 2) := by decide +kernel
theorem E6_118 {call : jv_F} {l0 l1 l2 l3 l4 l5 l6 : Option Value} {x : Int32} {st : List Value} {h : jv_H} (hk : ¬ jv_is2 (some l4) = true) : jv_ev call 6 118 [l0, l1, l2, l3, l4, l5, l6] (.int x :: st) h = jv_ev call 6 120 [l0, l1, l2, l3, l4, some (.int x), l6] st h := je_istore D6_118 rfl (Nat.le_of_ble_eq_true rfl) (by show jv_st1 _ 5 _ = _; simp only [jv_st1, jv_kill, List.getElem?_cons_succ, List.getElem?_cons_zero, hk, if_false]; rfl)
theorem D6_120 : decode (jt_code 6) 120 = .ok (.iload 5, 2) := by decide +kernel
theorem E6_120 {call : jv_F} {l0 l1 l2 l3 l4 l6 : Option Value} {x : Int32} {st : List Value} {h : jv_H} : jv_ev call 6 120 [l0, l1, l2, l3, l4, some (.int x), l6] st h = jv_ev call 6 122 [l0, l1, l2, l3, l4, some (.int x), l6] (.int x :: st) h := je_iload D6_120 rfl rfl
theorem D6_122 : decode (jt_code 6) 122 = .ok (.aload_n 0, 1) := by decide +kernel
theorem E6_122 {call : jv_F} {l1 l2 l3 l4 l5 l6 : Option Value} {a : Nat} {st : List Value} {h : jv_H} : jv_ev call 6 122 [some (.ref a), l1, l2, l3, l4, l5, l6] st h = jv_ev call 6 123 [some (.ref a), l1, l2, l3, l4, l5, l6] (.ref a :: st) h := je_aload_n (r := some a) D6_122 rfl rfl
theorem D6_123 : decode (jt_code 6) 123 = .ok (.getfield 107, 3) := by decide +kernel
theorem E6_123 {call : jv_F} {l0 l1 l2 l3 l4 l5 l6 : Option Value}  {st : List Value} {m : Nat} {I : Nat → Int32} {A : Nat → Nat → Int32} {L : Nat → Nat → Int64} {rest : Nat → Option jv_C} {z : Nat × Nat} : jv_ev call 6 123 [l0, l1, l2, l3, l4, l5, l6] (.ref m :: st) (jm_H m I A L rest z) = jv_ev call 6 126 [l0, l1, l2, l3, l4, l5, l6] (.int (I 4) :: st) (jm_H m I A L rest z) := je_get D6_123 rfl (by decide) jm_g4
theorem D6_126 : decode (jt_code 6) 126 = .ok (.if_icmp .ge 30, 3) := by decide +kernel
theorem E6_126 {call : jv_F} {l0 l1 l2 l3 l4 l5 l6 : Option Value} {x y : Int32} {st : List Value} {h : jv_H} : jv_ev call 6 126 [l0, l1, l2, l3, l4, l5, l6] (.int y :: .int x :: st) h = if y ≤ x then jv_ev call 6 156 [l0, l1, l2, l3, l4, l5, l6] st h else jv_ev call 6 129 [l0, l1, l2, l3, l4, l5, l6] st h := je_icmp D6_126 (by decide) rfl rfl
theorem D6_129 : decode (jt_code 6) 129 = .ok (.aload_n 0, 1) := by decide +kernel
theorem E6_129 {call : jv_F} {l1 l2 l3 l4 l5 l6 : Option Value} {a : Nat} {st : List Value} {h : jv_H} : jv_ev call 6 129 [some (.ref a), l1, l2, l3, l4, l5, l6] st h = jv_ev call 6 130 [some (.ref a), l1, l2, l3, l4, l5, l6] (.ref a :: st) h := je_aload_n (r := some a) D6_129 rfl rfl
theorem D6_130 : decode (jt_code 6) 130 = .ok (.getfield 42, 3) := by decide +kernel
theorem E6_130 {call : jv_F} {l0 l1 l2 l3 l4 l5 l6 : Option Value}  {st : List Value} {m : Nat} {I : Nat → Int32} {A : Nat → Nat → Int32} {L : Nat → Nat → Int64} {rest : Nat → Option jv_C} {z : Nat × Nat} : jv_ev call 6 130 [l0, l1, l2, l3, l4, l5, l6] (.ref m :: st) (jm_H m I A L rest z) = jv_ev call 6 133 [l0, l1, l2, l3, l4, l5, l6] (.ref (m + 10) :: st) (jm_H m I A L rest z) := je_get D6_130 rfl (by decide) jm_g13
theorem D6_133 : decode (jt_code 6) 133 = .ok (.sipush 2000, 3) := by decide +kernel
theorem E6_133 {call : jv_F} {l0 l1 l2 l3 l4 l5 l6 : Option Value}  {st : List Value} {h : jv_H} : jv_ev call 6 133 [l0, l1, l2, l3, l4, l5, l6] st h = jv_ev call 6 136 [l0, l1, l2, l3, l4, l5, l6] (.int (nI 2000) :: st) h := je_sipush D6_133 rfl (by decide)
theorem D6_136 : decode (jt_code 6) 136 = .ok (.iload 4, 2) := by decide +kernel
theorem E6_136 {call : jv_F} {l0 l1 l2 l3 l5 l6 : Option Value} {x : Int32} {st : List Value} {h : jv_H} : jv_ev call 6 136 [l0, l1, l2, l3, some (.int x), l5, l6] st h = jv_ev call 6 138 [l0, l1, l2, l3, some (.int x), l5, l6] (.int x :: st) h := je_iload D6_136 rfl rfl
theorem D6_138 : decode (jt_code 6) 138 = .ok (.imul, 1) := by decide +kernel
theorem E6_138 {call : jv_F} {l0 l1 l2 l3 l4 l5 l6 : Option Value} {x y : Int32} {st : List Value} {h : jv_H} : jv_ev call 6 138 [l0, l1, l2, l3, l4, l5, l6] (.int y :: .int x :: st) h = jv_ev call 6 139 [l0, l1, l2, l3, l4, l5, l6] (.int (x * y) :: st) h := je_b2 (f := fun x y => x * y) D6_138 rfl (fun _ => rfl)
theorem D6_139 : decode (jt_code 6) 139 = .ok (.iload 5, 2) := by decide +kernel
theorem E6_139 {call : jv_F} {l0 l1 l2 l3 l4 l6 : Option Value} {x : Int32} {st : List Value} {h : jv_H} : jv_ev call 6 139 [l0, l1, l2, l3, l4, some (.int x), l6] st h = jv_ev call 6 141 [l0, l1, l2, l3, l4, some (.int x), l6] (.int x :: st) h := je_iload D6_139 rfl rfl
theorem D6_141 : decode (jt_code 6) 141 = .ok (.iadd, 1) := by decide +kernel
theorem E6_141 {call : jv_F} {l0 l1 l2 l3 l4 l5 l6 : Option Value} {x y : Int32} {st : List Value} {h : jv_H} : jv_ev call 6 141 [l0, l1, l2, l3, l4, l5, l6] (.int y :: .int x :: st) h = jv_ev call 6 142 [l0, l1, l2, l3, l4, l5, l6] (.int (x + y) :: st) h := je_b2 (f := fun x y => x + y) D6_141 rfl (fun _ => rfl)
theorem D6_142 : decode (jt_code 6) 142 = .ok (.aload_n 0, 1) := by decide +kernel
theorem E6_142 {call : jv_F} {l1 l2 l3 l4 l5 l6 : Option Value} {a : Nat} {st : List Value} {h : jv_H} : jv_ev call 6 142 [some (.ref a), l1, l2, l3, l4, l5, l6] st h = jv_ev call 6 143 [some (.ref a), l1, l2, l3, l4, l5, l6] (.ref a :: st) h := je_aload_n (r := some a) D6_142 rfl rfl
theorem D6_143 : decode (jt_code 6) 143 = .ok (.getfield 17, 3) := by decide +kernel
theorem E6_143 {call : jv_F} {l0 l1 l2 l3 l4 l5 l6 : Option Value}  {st : List Value} {m : Nat} {I : Nat → Int32} {A : Nat → Nat → Int32} {L : Nat → Nat → Int64} {rest : Nat → Option jv_C} {z : Nat × Nat} : jv_ev call 6 143 [l0, l1, l2, l3, l4, l5, l6] (.ref m :: st) (jm_H m I A L rest z) = jv_ev call 6 146 [l0, l1, l2, l3, l4, l5, l6] (.ref (m + 2) :: st) (jm_H m I A L rest z) := je_get D6_143 rfl (by decide) jm_g3
theorem D6_146 : decode (jt_code 6) 146 = .ok (.iload 5, 2) := by decide +kernel
theorem E6_146 {call : jv_F} {l0 l1 l2 l3 l4 l6 : Option Value} {x : Int32} {st : List Value} {h : jv_H} : jv_ev call 6 146 [l0, l1, l2, l3, l4, some (.int x), l6] st h = jv_ev call 6 148 [l0, l1, l2, l3, l4, some (.int x), l6] (.int x :: st) h := je_iload D6_146 rfl rfl
theorem D6_148 : decode (jt_code 6) 148 = .ok (.iaload, 1) := by decide +kernel
theorem E6_148 {call : jv_F} {l0 l1 l2 l3 l4 l5 l6 : Option Value} {i : Nat} {st : List Value} {m : Nat} {I : Nat → Int32} {A : Nat → Nat → Int32} {L : Nat → Nat → Int64} {rest : Nat → Option jv_C} {z : Nat × Nat} (hi : i < 2000) : jv_ev call 6 148 [l0, l1, l2, l3, l4, l5, l6] (.int (nI i) :: .ref (m + 2) :: st) (jm_H m I A L rest z) = jv_ev call 6 149 [l0, l1, l2, l3, l4, l5, l6] (.int (A 3 i) :: st) (jm_H m I A L rest z) := je_iald D6_148 rfl (jm_l3 hi)
theorem D6_149 : decode (jt_code 6) 149 = .ok (.iastore, 1) := by decide +kernel
theorem E6_149 {call : jv_F} {l0 l1 l2 l3 l4 l5 l6 : Option Value} {i : Nat} {v : Int32} {st : List Value} {m : Nat} {I : Nat → Int32} {A : Nat → Nat → Int32} {L : Nat → Nat → Int64} {rest : Nat → Option jv_C} {z : Nat × Nat} (hi : i < 24000) : jv_ev call 6 149 [l0, l1, l2, l3, l4, l5, l6] (.int v :: .int (nI i) :: .ref (m + 10) :: st) (jm_H m I A L rest z) = jv_ev call 6 150 [l0, l1, l2, l3, l4, l5, l6] st (jm_H m I (va_up A 13 (upd (A 13) i v)) L rest z) := je_iast D6_149 rfl (jm_s13 hi)
theorem D6_150 : decode (jt_code 6) 150 = .ok (.iinc 5 1, 3) := by decide +kernel
theorem E6_150 {call : jv_F} {l0 l1 l2 l3 l4 l6 : Option Value} {x : Int32} {st : List Value} {h : jv_H} (hk : ¬ jv_is2 (some l4) = true) : jv_ev call 6 150 [l0, l1, l2, l3, l4, some (.int x), l6] st h = jv_ev call 6 153 [l0, l1, l2, l3, l4, some (.int (x + (nI 1))), l6] st h := je_iinc D6_150 rfl rfl (v := x + (nI 1)) (by rfl) (by show jv_st1 _ 5 _ = _; simp only [jv_st1, jv_kill, List.getElem?_cons_succ, List.getElem?_cons_zero, hk, if_false]; rfl)
theorem D6_153 : decode (jt_code 6) 153 = .ok (.goto (-33), 3) := by decide +kernel
theorem E6_153 {call : jv_F} {l0 l1 l2 l3 l4 l5 l6 : Option Value}  {st : List Value} {h : jv_H} : jv_ev call 6 153 [l0, l1, l2, l3, l4, l5, l6] st h = jv_ev call 6 120 [l0, l1, l2, l3, l4, l5, l6] st h := je_goto D6_153 (by decide)
theorem D6_156 : decode (jt_code 6) 156 = .ok (.aload_n 0, 1) := by decide +kernel
theorem E6_156 {call : jv_F} {l1 l2 l3 l4 l5 l6 : Option Value} {a : Nat} {st : List Value} {h : jv_H} : jv_ev call 6 156 [some (.ref a), l1, l2, l3, l4, l5, l6] st h = jv_ev call 6 157 [some (.ref a), l1, l2, l3, l4, l5, l6] (.ref a :: st) h := je_aload_n (r := some a) D6_156 rfl rfl
theorem D6_157 : decode (jt_code 6) 157 = .ok (.getfield 45, 3) := by decide +kernel
theorem E6_157 {call : jv_F} {l0 l1 l2 l3 l4 l5 l6 : Option Value}  {st : List Value} {m : Nat} {I : Nat → Int32} {A : Nat → Nat → Int32} {L : Nat → Nat → Int64} {rest : Nat → Option jv_C} {z : Nat × Nat} : jv_ev call 6 157 [l0, l1, l2, l3, l4, l5, l6] (.ref m :: st) (jm_H m I A L rest z) = jv_ev call 6 160 [l0, l1, l2, l3, l4, l5, l6] (.ref (m + 11) :: st) (jm_H m I A L rest z) := je_get D6_157 rfl (by decide) jm_g14
theorem D6_160 : decode (jt_code 6) 160 = .ok (.iload 4, 2) := by decide +kernel
theorem E6_160 {call : jv_F} {l0 l1 l2 l3 l5 l6 : Option Value} {x : Int32} {st : List Value} {h : jv_H} : jv_ev call 6 160 [l0, l1, l2, l3, some (.int x), l5, l6] st h = jv_ev call 6 162 [l0, l1, l2, l3, some (.int x), l5, l6] (.int x :: st) h := je_iload D6_160 rfl rfl
theorem D6_162 : decode (jt_code 6) 162 = .ok (.aload_n 0, 1) := by decide +kernel
theorem E6_162 {call : jv_F} {l1 l2 l3 l4 l5 l6 : Option Value} {a : Nat} {st : List Value} {h : jv_H} : jv_ev call 6 162 [some (.ref a), l1, l2, l3, l4, l5, l6] st h = jv_ev call 6 163 [some (.ref a), l1, l2, l3, l4, l5, l6] (.ref a :: st) h := je_aload_n (r := some a) D6_162 rfl rfl
theorem D6_163 : decode (jt_code 6) 163 = .ok (.getfield 107, 3) := by decide +kernel
theorem E6_163 {call : jv_F} {l0 l1 l2 l3 l4 l5 l6 : Option Value}  {st : List Value} {m : Nat} {I : Nat → Int32} {A : Nat → Nat → Int32} {L : Nat → Nat → Int64} {rest : Nat → Option jv_C} {z : Nat × Nat} : jv_ev call 6 163 [l0, l1, l2, l3, l4, l5, l6] (.ref m :: st) (jm_H m I A L rest z) = jv_ev call 6 166 [l0, l1, l2, l3, l4, l5, l6] (.int (I 4) :: st) (jm_H m I A L rest z) := je_get D6_163 rfl (by decide) jm_g4
theorem D6_166 : decode (jt_code 6) 166 = .ok (.iastore, 1) := by decide +kernel
theorem E6_166 {call : jv_F} {l0 l1 l2 l3 l4 l5 l6 : Option Value} {i : Nat} {v : Int32} {st : List Value} {m : Nat} {I : Nat → Int32} {A : Nat → Nat → Int32} {L : Nat → Nat → Int64} {rest : Nat → Option jv_C} {z : Nat × Nat} (hi : i < 12) : jv_ev call 6 166 [l0, l1, l2, l3, l4, l5, l6] (.int v :: .int (nI i) :: .ref (m + 11) :: st) (jm_H m I A L rest z) = jv_ev call 6 167 [l0, l1, l2, l3, l4, l5, l6] st (jm_H m I (va_up A 14 (upd (A 14) i v)) L rest z) := je_iast D6_166 rfl (jm_s14 hi)
theorem D6_167 : decode (jt_code 6) 167 = .ok (.aload_n 0, 1) := by decide +kernel
theorem E6_167 {call : jv_F} {l1 l2 l3 l4 l5 l6 : Option Value} {a : Nat} {st : List Value} {h : jv_H} : jv_ev call 6 167 [some (.ref a), l1, l2, l3, l4, l5, l6] st h = jv_ev call 6 168 [some (.ref a), l1, l2, l3, l4, l5, l6] (.ref a :: st) h := je_aload_n (r := some a) D6_167 rfl rfl
theorem D6_168 : decode (jt_code 6) 168 = .ok (.iconst 0, 1) := by decide +kernel
theorem E6_168 {call : jv_F} {l0 l1 l2 l3 l4 l5 l6 : Option Value}  {st : List Value} {h : jv_H} : jv_ev call 6 168 [l0, l1, l2, l3, l4, l5, l6] st h = jv_ev call 6 169 [l0, l1, l2, l3, l4, l5, l6] (.int (nI 0) :: st) h := je_iconst D6_168 rfl (by decide)
theorem D6_169 : decode (jt_code 6) 169 = .ok (.putfield 100, 3) := by decide +kernel
theorem E6_169 {call : jv_F} {l0 l1 l2 l3 l4 l5 l6 : Option Value} {v : Int32} {st : List Value} {m : Nat} {I : Nat → Int32} {A : Nat → Nat → Int32} {L : Nat → Nat → Int64} {rest : Nat → Option jv_C} {z : Nat × Nat} : jv_ev call 6 169 [l0, l1, l2, l3, l4, l5, l6] (.int v :: .ref m :: st) (jm_H m I A L rest z) = jv_ev call 6 172 [l0, l1, l2, l3, l4, l5, l6] st (jm_H m (upd I 2 v) A L rest z) := je_put D6_169 rfl (by decide) (by decide) jm_p2
theorem D6_172 : decode (jt_code 6) 172 = .ok (.aload_n 0, 1) := by decide +kernel
theorem E6_172 {call : jv_F} {l1 l2 l3 l4 l5 l6 : Option Value} {a : Nat} {st : List Value} {h : jv_H} : jv_ev call 6 172 [some (.ref a), l1, l2, l3, l4, l5, l6] st h = jv_ev call 6 173 [some (.ref a), l1, l2, l3, l4, l5, l6] (.ref a :: st) h := je_aload_n (r := some a) D6_172 rfl rfl
theorem D6_173 : decode (jt_code 6) 173 = .ok (.iconst 0, 1) := by decide +kernel
theorem E6_173 {call : jv_F} {l0 l1 l2 l3 l4 l5 l6 : Option Value}  {st : List Value} {h : jv_H} : jv_ev call 6 173 [l0, l1, l2, l3, l4, l5, l6] st h = jv_ev call 6 174 [l0, l1, l2, l3, l4, l5, l6] (.int (nI 0) :: st) h := je_iconst D6_173 rfl (by decide)
theorem D6_174 : decode (jt_code 6) 174 = .ok (.putfield 107, 3) := by decide +kernel
theorem E6_174 {call : jv_F} {l0 l1 l2 l3 l4 l5 l6 : Option Value} {v : Int32} {st : List Value} {m : Nat} {I : Nat → Int32} {A : Nat → Nat → Int32} {L : Nat → Nat → Int64} {rest : Nat → Option jv_C} {z : Nat × Nat} : jv_ev call 6 174 [l0, l1, l2, l3, l4, l5, l6] (.int v :: .ref m :: st) (jm_H m I A L rest z) = jv_ev call 6 177 [l0, l1, l2, l3, l4, l5, l6] st (jm_H m (upd I 4 v) A L rest z) := je_put D6_174 rfl (by decide) (by decide) jm_p4
theorem D6_177 : decode (jt_code 6) 177 = .ok (.iconst 0, 1) := by decide +kernel
theorem E6_177 {call : jv_F} {l0 l1 l2 l3 l4 l5 l6 : Option Value}  {st : List Value} {h : jv_H} : jv_ev call 6 177 [l0, l1, l2, l3, l4, l5, l6] st h = jv_ev call 6 178 [l0, l1, l2, l3, l4, l5, l6] (.int (nI 0) :: st) h := je_iconst D6_177 rfl (by decide)
theorem D6_178 : decode (jt_code 6) 178 = .ok (.istore 5, 2) := by decide +kernel
theorem E6_178 {call : jv_F} {l0 l1 l2 l3 l4 l5 l6 : Option Value} {x : Int32} {st : List Value} {h : jv_H} (hk : ¬ jv_is2 (some l4) = true) : jv_ev call 6 178 [l0, l1, l2, l3, l4, l5, l6] (.int x :: st) h = jv_ev call 6 180 [l0, l1, l2, l3, l4, some (.int x), l6] st h := je_istore D6_178 rfl (Nat.le_of_ble_eq_true rfl) (by show jv_st1 _ 5 _ = _; simp only [jv_st1, jv_kill, List.getElem?_cons_succ, List.getElem?_cons_zero, hk, if_false]; rfl)
theorem D6_180 : decode (jt_code 6) 180 = .ok (.iload 5, 2) := by decide +kernel
theorem E6_180 {call : jv_F} {l0 l1 l2 l3 l4 l6 : Option Value} {x : Int32} {st : List Value} {h : jv_H} : jv_ev call 6 180 [l0, l1, l2, l3, l4, some (.int x), l6] st h = jv_ev call 6 182 [l0, l1, l2, l3, l4, some (.int x), l6] (.int x :: st) h := je_iload D6_180 rfl rfl
theorem D6_182 : decode (jt_code 6) 182 = .ok (.bipush 64, 2) := by decide +kernel
theorem E6_182 {call : jv_F} {l0 l1 l2 l3 l4 l5 l6 : Option Value}  {st : List Value} {h : jv_H} : jv_ev call 6 182 [l0, l1, l2, l3, l4, l5, l6] st h = jv_ev call 6 184 [l0, l1, l2, l3, l4, l5, l6] (.int (nI 64) :: st) h := je_bipush D6_182 rfl (by decide)
theorem D6_184 : decode (jt_code 6) 184 = .ok (.if_icmp .ge 23, 3) := by decide +kernel
theorem E6_184 {call : jv_F} {l0 l1 l2 l3 l4 l5 l6 : Option Value} {x y : Int32} {st : List Value} {h : jv_H} : jv_ev call 6 184 [l0, l1, l2, l3, l4, l5, l6] (.int y :: .int x :: st) h = if y ≤ x then jv_ev call 6 207 [l0, l1, l2, l3, l4, l5, l6] st h else jv_ev call 6 187 [l0, l1, l2, l3, l4, l5, l6] st h := je_icmp D6_184 (by decide) rfl rfl
theorem D6_187 : decode (jt_code 6) 187 = .ok (.aload_n 0, 1) := by decide +kernel
theorem E6_187 {call : jv_F} {l1 l2 l3 l4 l5 l6 : Option Value} {a : Nat} {st : List Value} {h : jv_H} : jv_ev call 6 187 [some (.ref a), l1, l2, l3, l4, l5, l6] st h = jv_ev call 6 188 [some (.ref a), l1, l2, l3, l4, l5, l6] (.ref a :: st) h := je_aload_n (r := some a) D6_187 rfl rfl
theorem D6_188 : decode (jt_code 6) 188 = .ok (.getfield 67, 3) := by decide +kernel
theorem E6_188 {call : jv_F} {l0 l1 l2 l3 l4 l5 l6 : Option Value}  {st : List Value} {m : Nat} {I : Nat → Int32} {A : Nat → Nat → Int32} {L : Nat → Nat → Int64} {rest : Nat → Option jv_C} {z : Nat × Nat} : jv_ev call 6 188 [l0, l1, l2, l3, l4, l5, l6] (.ref m :: st) (jm_H m I A L rest z) = jv_ev call 6 191 [l0, l1, l2, l3, l4, l5, l6] (.ref (m + 18) :: st) (jm_H m I A L rest z) := je_get D6_188 rfl (by decide) jm_g21
theorem D6_191 : decode (jt_code 6) 191 = .ok (.bipush 64, 2) := by decide +kernel
theorem E6_191 {call : jv_F} {l0 l1 l2 l3 l4 l5 l6 : Option Value}  {st : List Value} {h : jv_H} : jv_ev call 6 191 [l0, l1, l2, l3, l4, l5, l6] st h = jv_ev call 6 193 [l0, l1, l2, l3, l4, l5, l6] (.int (nI 64) :: st) h := je_bipush D6_191 rfl (by decide)
theorem D6_193 : decode (jt_code 6) 193 = .ok (.iload 4, 2) := by decide +kernel
theorem E6_193 {call : jv_F} {l0 l1 l2 l3 l5 l6 : Option Value} {x : Int32} {st : List Value} {h : jv_H} : jv_ev call 6 193 [l0, l1, l2, l3, some (.int x), l5, l6] st h = jv_ev call 6 195 [l0, l1, l2, l3, some (.int x), l5, l6] (.int x :: st) h := je_iload D6_193 rfl rfl
theorem D6_195 : decode (jt_code 6) 195 = .ok (.imul, 1) := by decide +kernel
theorem E6_195 {call : jv_F} {l0 l1 l2 l3 l4 l5 l6 : Option Value} {x y : Int32} {st : List Value} {h : jv_H} : jv_ev call 6 195 [l0, l1, l2, l3, l4, l5, l6] (.int y :: .int x :: st) h = jv_ev call 6 196 [l0, l1, l2, l3, l4, l5, l6] (.int (x * y) :: st) h := je_b2 (f := fun x y => x * y) D6_195 rfl (fun _ => rfl)
theorem D6_196 : decode (jt_code 6) 196 = .ok (.iload 5, 2) := by decide +kernel
theorem E6_196 {call : jv_F} {l0 l1 l2 l3 l4 l6 : Option Value} {x : Int32} {st : List Value} {h : jv_H} : jv_ev call 6 196 [l0, l1, l2, l3, l4, some (.int x), l6] st h = jv_ev call 6 198 [l0, l1, l2, l3, l4, some (.int x), l6] (.int x :: st) h := je_iload D6_196 rfl rfl
theorem D6_198 : decode (jt_code 6) 198 = .ok (.iadd, 1) := by decide +kernel
theorem E6_198 {call : jv_F} {l0 l1 l2 l3 l4 l5 l6 : Option Value} {x y : Int32} {st : List Value} {h : jv_H} : jv_ev call 6 198 [l0, l1, l2, l3, l4, l5, l6] (.int y :: .int x :: st) h = jv_ev call 6 199 [l0, l1, l2, l3, l4, l5, l6] (.int (x + y) :: st) h := je_b2 (f := fun x y => x + y) D6_198 rfl (fun _ => rfl)
theorem D6_199 : decode (jt_code 6) 199 = .ok (.iconst (-1), 1) := by decide +kernel
theorem E6_199 {call : jv_F} {l0 l1 l2 l3 l4 l5 l6 : Option Value}  {st : List Value} {h : jv_H} : jv_ev call 6 199 [l0, l1, l2, l3, l4, l5, l6] st h = jv_ev call 6 200 [l0, l1, l2, l3, l4, l5, l6] (.int (-1) :: st) h := je_iconst D6_199 rfl (by decide)
theorem D6_200 : decode (jt_code 6) 200 = .ok (.iastore, 1) := by decide +kernel
theorem E6_200 {call : jv_F} {l0 l1 l2 l3 l4 l5 l6 : Option Value} {i : Nat} {v : Int32} {st : List Value} {m : Nat} {I : Nat → Int32} {A : Nat → Nat → Int32} {L : Nat → Nat → Int64} {rest : Nat → Option jv_C} {z : Nat × Nat} (hi : i < 768) : jv_ev call 6 200 [l0, l1, l2, l3, l4, l5, l6] (.int v :: .int (nI i) :: .ref (m + 18) :: st) (jm_H m I A L rest z) = jv_ev call 6 201 [l0, l1, l2, l3, l4, l5, l6] st (jm_H m I (va_up A 21 (upd (A 21) i v)) L rest z) := je_iast D6_200 rfl (jm_s21 hi)
theorem D6_201 : decode (jt_code 6) 201 = .ok (.iinc 5 1, 3) := by decide +kernel
theorem E6_201 {call : jv_F} {l0 l1 l2 l3 l4 l6 : Option Value} {x : Int32} {st : List Value} {h : jv_H} (hk : ¬ jv_is2 (some l4) = true) : jv_ev call 6 201 [l0, l1, l2, l3, l4, some (.int x), l6] st h = jv_ev call 6 204 [l0, l1, l2, l3, l4, some (.int (x + (nI 1))), l6] st h := je_iinc D6_201 rfl rfl (v := x + (nI 1)) (by rfl) (by show jv_st1 _ 5 _ = _; simp only [jv_st1, jv_kill, List.getElem?_cons_succ, List.getElem?_cons_zero, hk, if_false]; rfl)
theorem D6_204 : decode (jt_code 6) 204 = .ok (.goto (-24), 3) := by decide +kernel
theorem E6_204 {call : jv_F} {l0 l1 l2 l3 l4 l5 l6 : Option Value}  {st : List Value} {h : jv_H} : jv_ev call 6 204 [l0, l1, l2, l3, l4, l5, l6] st h = jv_ev call 6 180 [l0, l1, l2, l3, l4, l5, l6] st h := je_goto D6_204 (by decide)
theorem D6_207 : decode (jt_code 6) 207 = .ok (.iconst 0, 1) := by decide +kernel
theorem E6_207 {call : jv_F} {l0 l1 l2 l3 l4 l5 l6 : Option Value}  {st : List Value} {h : jv_H} : jv_ev call 6 207 [l0, l1, l2, l3, l4, l5, l6] st h = jv_ev call 6 208 [l0, l1, l2, l3, l4, l5, l6] (.int (nI 0) :: st) h := je_iconst D6_207 rfl (by decide)
theorem D6_208 : decode (jt_code 6) 208 = .ok (.istore 5, 2) := by decide +kernel
theorem E6_208 {call : jv_F} {l0 l1 l2 l3 l4 l5 l6 : Option Value} {x : Int32} {st : List Value} {h : jv_H} (hk : ¬ jv_is2 (some l4) = true) : jv_ev call 6 208 [l0, l1, l2, l3, l4, l5, l6] (.int x :: st) h = jv_ev call 6 210 [l0, l1, l2, l3, l4, some (.int x), l6] st h := je_istore D6_208 rfl (Nat.le_of_ble_eq_true rfl) (by show jv_st1 _ 5 _ = _; simp only [jv_st1, jv_kill, List.getElem?_cons_succ, List.getElem?_cons_zero, hk, if_false]; rfl)
theorem D6_210 : decode (jt_code 6) 210 = .ok (.iconst 0, 1) := by decide +kernel
theorem E6_210 {call : jv_F} {l0 l1 l2 l3 l4 l5 l6 : Option Value}  {st : List Value} {h : jv_H} : jv_ev call 6 210 [l0, l1, l2, l3, l4, l5, l6] st h = jv_ev call 6 211 [l0, l1, l2, l3, l4, l5, l6] (.int (nI 0) :: st) h := je_iconst D6_210 rfl (by decide)
theorem D6_211 : decode (jt_code 6) 211 = .ok (.istore 6, 2) := by decide +kernel
theorem E6_211 {call : jv_F} {l0 l1 l2 l3 l4 l5 l6 : Option Value} {x : Int32} {st : List Value} {h : jv_H} (hk : ¬ jv_is2 (some l5) = true) : jv_ev call 6 211 [l0, l1, l2, l3, l4, l5, l6] (.int x :: st) h = jv_ev call 6 213 [l0, l1, l2, l3, l4, l5, some (.int x)] st h := je_istore D6_211 rfl (Nat.le_of_ble_eq_true rfl) (by show jv_st1 _ 6 _ = _; simp only [jv_st1, jv_kill, List.getElem?_cons_succ, List.getElem?_cons_zero, hk, if_false]; rfl)
theorem D6_213 : decode (jt_code 6) 213 = .ok (.iload 6, 2) := by decide +kernel
theorem E6_213 {call : jv_F} {l0 l1 l2 l3 l4 l5 : Option Value} {x : Int32} {st : List Value} {h : jv_H} : jv_ev call 6 213 [l0, l1, l2, l3, l4, l5, some (.int x)] st h = jv_ev call 6 215 [l0, l1, l2, l3, l4, l5, some (.int x)] (.int x :: st) h := je_iload D6_213 rfl rfl
theorem D6_215 : decode (jt_code 6) 215 = .ok (.iload_n 3, 1) := by decide +kernel
theorem E6_215 {call : jv_F} {l0 l1 l2 l4 l5 l6 : Option Value} {x : Int32} {st : List Value} {h : jv_H} : jv_ev call 6 215 [l0, l1, l2, some (.int x), l4, l5, l6] st h = jv_ev call 6 216 [l0, l1, l2, some (.int x), l4, l5, l6] (.int x :: st) h := je_iload_n D6_215 rfl rfl
theorem D6_216 : decode (jt_code 6) 216 = .ok (.if_icmp .ge 52, 3) := by decide +kernel
theorem E6_216 {call : jv_F} {l0 l1 l2 l3 l4 l5 l6 : Option Value} {x y : Int32} {st : List Value} {h : jv_H} : jv_ev call 6 216 [l0, l1, l2, l3, l4, l5, l6] (.int y :: .int x :: st) h = if y ≤ x then jv_ev call 6 268 [l0, l1, l2, l3, l4, l5, l6] st h else jv_ev call 6 219 [l0, l1, l2, l3, l4, l5, l6] st h := je_icmp D6_216 (by decide) rfl rfl
theorem D6_219 : decode (jt_code 6) 219 = .ok (.aload_n 0, 1) := by decide +kernel
theorem E6_219 {call : jv_F} {l1 l2 l3 l4 l5 l6 : Option Value} {a : Nat} {st : List Value} {h : jv_H} : jv_ev call 6 219 [some (.ref a), l1, l2, l3, l4, l5, l6] st h = jv_ev call 6 220 [some (.ref a), l1, l2, l3, l4, l5, l6] (.ref a :: st) h := je_aload_n (r := some a) D6_219 rfl rfl
theorem D6_220 : decode (jt_code 6) 220 = .ok (.getfield 85, 3) := by decide +kernel
theorem E6_220 {call : jv_F} {l0 l1 l2 l3 l4 l5 l6 : Option Value}  {st : List Value} {m : Nat} {I : Nat → Int32} {A : Nat → Nat → Int32} {L : Nat → Nat → Int64} {rest : Nat → Option jv_C} {z : Nat × Nat} : jv_ev call 6 220 [l0, l1, l2, l3, l4, l5, l6] (.ref m :: st) (jm_H m I A L rest z) = jv_ev call 6 223 [l0, l1, l2, l3, l4, l5, l6] (.ref (m + 24) :: st) (jm_H m I A L rest z) := je_get D6_220 rfl (by decide) jm_g28
theorem D6_223 : decode (jt_code 6) 223 = .ok (.iload 5, 2) := by decide +kernel
theorem E6_223 {call : jv_F} {l0 l1 l2 l3 l4 l6 : Option Value} {x : Int32} {st : List Value} {h : jv_H} : jv_ev call 6 223 [l0, l1, l2, l3, l4, some (.int x), l6] st h = jv_ev call 6 225 [l0, l1, l2, l3, l4, some (.int x), l6] (.int x :: st) h := je_iload D6_223 rfl rfl
theorem D6_225 : decode (jt_code 6) 225 = .ok (.iaload, 1) := by decide +kernel
theorem E6_225 {call : jv_F} {l0 l1 l2 l3 l4 l5 l6 : Option Value} {i : Nat} {st : List Value} {m : Nat} {I : Nat → Int32} {A : Nat → Nat → Int32} {L : Nat → Nat → Int64} {rest : Nat → Option jv_C} {z : Nat × Nat} (hi : i < 64) : jv_ev call 6 225 [l0, l1, l2, l3, l4, l5, l6] (.int (nI i) :: .ref (m + 24) :: st) (jm_H m I A L rest z) = jv_ev call 6 226 [l0, l1, l2, l3, l4, l5, l6] (.int (A 28 i) :: st) (jm_H m I A L rest z) := je_iald D6_225 rfl (jm_l28 hi)
theorem D6_226 : decode (jt_code 6) 226 = .ok (.ifCond .lt 9, 3) := by decide +kernel
theorem E6_226 {call : jv_F} {l0 l1 l2 l3 l4 l5 l6 : Option Value} {x : Int32} {st : List Value} {h : jv_H} : jv_ev call 6 226 [l0, l1, l2, l3, l4, l5, l6] (.int x :: st) h = if x < 0 then jv_ev call 6 235 [l0, l1, l2, l3, l4, l5, l6] st h else jv_ev call 6 229 [l0, l1, l2, l3, l4, l5, l6] st h := je_ifc D6_226 (by decide) rfl rfl
theorem D6_229 : decode (jt_code 6) 229 = .ok (.iinc 5 1, 3) := by decide +kernel
theorem E6_229 {call : jv_F} {l0 l1 l2 l3 l4 l6 : Option Value} {x : Int32} {st : List Value} {h : jv_H} (hk : ¬ jv_is2 (some l4) = true) : jv_ev call 6 229 [l0, l1, l2, l3, l4, some (.int x), l6] st h = jv_ev call 6 232 [l0, l1, l2, l3, l4, some (.int (x + (nI 1))), l6] st h := je_iinc D6_229 rfl rfl (v := x + (nI 1)) (by rfl) (by show jv_st1 _ 5 _ = _; simp only [jv_st1, jv_kill, List.getElem?_cons_succ, List.getElem?_cons_zero, hk, if_false]; rfl)
theorem D6_232 : decode (jt_code 6) 232 = .ok (.goto (-13), 3) := by decide +kernel
theorem E6_232 {call : jv_F} {l0 l1 l2 l3 l4 l5 l6 : Option Value}  {st : List Value} {h : jv_H} : jv_ev call 6 232 [l0, l1, l2, l3, l4, l5, l6] st h = jv_ev call 6 219 [l0, l1, l2, l3, l4, l5, l6] st h := je_goto D6_232 (by decide)
theorem D6_235 : decode (jt_code 6) 235 = .ok (.aload_n 0, 1) := by decide +kernel
theorem E6_235 {call : jv_F} {l1 l2 l3 l4 l5 l6 : Option Value} {a : Nat} {st : List Value} {h : jv_H} : jv_ev call 6 235 [some (.ref a), l1, l2, l3, l4, l5, l6] st h = jv_ev call 6 236 [some (.ref a), l1, l2, l3, l4, l5, l6] (.ref a :: st) h := je_aload_n (r := some a) D6_235 rfl rfl
theorem D6_236 : decode (jt_code 6) 236 = .ok (.getfield 85, 3) := by decide +kernel
theorem E6_236 {call : jv_F} {l0 l1 l2 l3 l4 l5 l6 : Option Value}  {st : List Value} {m : Nat} {I : Nat → Int32} {A : Nat → Nat → Int32} {L : Nat → Nat → Int64} {rest : Nat → Option jv_C} {z : Nat × Nat} : jv_ev call 6 236 [l0, l1, l2, l3, l4, l5, l6] (.ref m :: st) (jm_H m I A L rest z) = jv_ev call 6 239 [l0, l1, l2, l3, l4, l5, l6] (.ref (m + 24) :: st) (jm_H m I A L rest z) := je_get D6_236 rfl (by decide) jm_g28
theorem D6_239 : decode (jt_code 6) 239 = .ok (.iload 5, 2) := by decide +kernel
theorem E6_239 {call : jv_F} {l0 l1 l2 l3 l4 l6 : Option Value} {x : Int32} {st : List Value} {h : jv_H} : jv_ev call 6 239 [l0, l1, l2, l3, l4, some (.int x), l6] st h = jv_ev call 6 241 [l0, l1, l2, l3, l4, some (.int x), l6] (.int x :: st) h := je_iload D6_239 rfl rfl
theorem D6_241 : decode (jt_code 6) 241 = .ok (.bipush 64, 2) := by decide +kernel
theorem E6_241 {call : jv_F} {l0 l1 l2 l3 l4 l5 l6 : Option Value}  {st : List Value} {h : jv_H} : jv_ev call 6 241 [l0, l1, l2, l3, l4, l5, l6] st h = jv_ev call 6 243 [l0, l1, l2, l3, l4, l5, l6] (.int (nI 64) :: st) h := je_bipush D6_241 rfl (by decide)
theorem D6_243 : decode (jt_code 6) 243 = .ok (.iload 4, 2) := by decide +kernel
theorem E6_243 {call : jv_F} {l0 l1 l2 l3 l5 l6 : Option Value} {x : Int32} {st : List Value} {h : jv_H} : jv_ev call 6 243 [l0, l1, l2, l3, some (.int x), l5, l6] st h = jv_ev call 6 245 [l0, l1, l2, l3, some (.int x), l5, l6] (.int x :: st) h := je_iload D6_243 rfl rfl
theorem D6_245 : decode (jt_code 6) 245 = .ok (.imul, 1) := by decide +kernel
theorem E6_245 {call : jv_F} {l0 l1 l2 l3 l4 l5 l6 : Option Value} {x y : Int32} {st : List Value} {h : jv_H} : jv_ev call 6 245 [l0, l1, l2, l3, l4, l5, l6] (.int y :: .int x :: st) h = jv_ev call 6 246 [l0, l1, l2, l3, l4, l5, l6] (.int (x * y) :: st) h := je_b2 (f := fun x y => x * y) D6_245 rfl (fun _ => rfl)
theorem D6_246 : decode (jt_code 6) 246 = .ok (.iload 6, 2) := by decide +kernel
theorem E6_246 {call : jv_F} {l0 l1 l2 l3 l4 l5 : Option Value} {x : Int32} {st : List Value} {h : jv_H} : jv_ev call 6 246 [l0, l1, l2, l3, l4, l5, some (.int x)] st h = jv_ev call 6 248 [l0, l1, l2, l3, l4, l5, some (.int x)] (.int x :: st) h := je_iload D6_246 rfl rfl
theorem D6_248 : decode (jt_code 6) 248 = .ok (.iadd, 1) := by decide +kernel
theorem E6_248 {call : jv_F} {l0 l1 l2 l3 l4 l5 l6 : Option Value} {x y : Int32} {st : List Value} {h : jv_H} : jv_ev call 6 248 [l0, l1, l2, l3, l4, l5, l6] (.int y :: .int x :: st) h = jv_ev call 6 249 [l0, l1, l2, l3, l4, l5, l6] (.int (x + y) :: st) h := je_b2 (f := fun x y => x + y) D6_248 rfl (fun _ => rfl)
theorem D6_249 : decode (jt_code 6) 249 = .ok (.iastore, 1) := by decide +kernel
theorem E6_249 {call : jv_F} {l0 l1 l2 l3 l4 l5 l6 : Option Value} {i : Nat} {v : Int32} {st : List Value} {m : Nat} {I : Nat → Int32} {A : Nat → Nat → Int32} {L : Nat → Nat → Int64} {rest : Nat → Option jv_C} {z : Nat × Nat} (hi : i < 64) : jv_ev call 6 249 [l0, l1, l2, l3, l4, l5, l6] (.int v :: .int (nI i) :: .ref (m + 24) :: st) (jm_H m I A L rest z) = jv_ev call 6 250 [l0, l1, l2, l3, l4, l5, l6] st (jm_H m I (va_up A 28 (upd (A 28) i v)) L rest z) := je_iast D6_249 rfl (jm_s28 hi)
theorem D6_250 : decode (jt_code 6) 250 = .ok (.aload_n 0, 1) := by decide +kernel
theorem E6_250 {call : jv_F} {l1 l2 l3 l4 l5 l6 : Option Value} {a : Nat} {st : List Value} {h : jv_H} : jv_ev call 6 250 [some (.ref a), l1, l2, l3, l4, l5, l6] st h = jv_ev call 6 251 [some (.ref a), l1, l2, l3, l4, l5, l6] (.ref a :: st) h := je_aload_n (r := some a) D6_250 rfl rfl
theorem D6_251 : decode (jt_code 6) 251 = .ok (.bipush 64, 2) := by decide +kernel
theorem E6_251 {call : jv_F} {l0 l1 l2 l3 l4 l5 l6 : Option Value}  {st : List Value} {h : jv_H} : jv_ev call 6 251 [l0, l1, l2, l3, l4, l5, l6] st h = jv_ev call 6 253 [l0, l1, l2, l3, l4, l5, l6] (.int (nI 64) :: st) h := je_bipush D6_251 rfl (by decide)
theorem D6_253 : decode (jt_code 6) 253 = .ok (.iload 4, 2) := by decide +kernel
theorem E6_253 {call : jv_F} {l0 l1 l2 l3 l5 l6 : Option Value} {x : Int32} {st : List Value} {h : jv_H} : jv_ev call 6 253 [l0, l1, l2, l3, some (.int x), l5, l6] st h = jv_ev call 6 255 [l0, l1, l2, l3, some (.int x), l5, l6] (.int x :: st) h := je_iload D6_253 rfl rfl
theorem D6_255 : decode (jt_code 6) 255 = .ok (.imul, 1) := by decide +kernel
theorem E6_255 {call : jv_F} {l0 l1 l2 l3 l4 l5 l6 : Option Value} {x y : Int32} {st : List Value} {h : jv_H} : jv_ev call 6 255 [l0, l1, l2, l3, l4, l5, l6] (.int y :: .int x :: st) h = jv_ev call 6 256 [l0, l1, l2, l3, l4, l5, l6] (.int (x * y) :: st) h := je_b2 (f := fun x y => x * y) D6_255 rfl (fun _ => rfl)
theorem D6_256 : decode (jt_code 6) 256 = .ok (.iload 6, 2) := by decide +kernel
theorem E6_256 {call : jv_F} {l0 l1 l2 l3 l4 l5 : Option Value} {x : Int32} {st : List Value} {h : jv_H} : jv_ev call 6 256 [l0, l1, l2, l3, l4, l5, some (.int x)] st h = jv_ev call 6 258 [l0, l1, l2, l3, l4, l5, some (.int x)] (.int x :: st) h := je_iload D6_256 rfl rfl
theorem D6_258 : decode (jt_code 6) 258 = .ok (.iadd, 1) := by decide +kernel
theorem E6_258 {call : jv_F} {l0 l1 l2 l3 l4 l5 l6 : Option Value} {x y : Int32} {st : List Value} {h : jv_H} : jv_ev call 6 258 [l0, l1, l2, l3, l4, l5, l6] (.int y :: .int x :: st) h = jv_ev call 6 259 [l0, l1, l2, l3, l4, l5, l6] (.int (x + y) :: st) h := je_b2 (f := fun x y => x + y) D6_258 rfl (fun _ => rfl)
theorem D6_259 : decode (jt_code 6) 259 = .ok (.invokevirtual 113, 3) := by decide +kernel
theorem E6_259 {call : jv_F} {l0 l1 l2 l3 l4 l5 l6 : Option Value} {v0 : Value}  {st : List Value} {m : Nat} {I : Nat → Int32} {A : Nat → Nat → Int32} {L : Nat → Nat → Int64} {rest : Nat → Option jv_C} {z : Nat × Nat} (hw : jv_wide st = true) (hc : (call 7 [.ref m, v0] (jm_H m I A L rest z)).isSome = true) : jv_ev call 6 259 [l0, l1, l2, l3, l4, l5, l6] (v0 :: .ref m :: st) (jm_H m I A L rest z) = jv_ev call 6 262 [l0, l1, l2, l3, l4, l5, l6] ((((call 7 [.ref m, v0] (jm_H m I A L rest z)).getD (none, (jm_H m I A L rest z))).1).toList ++ st) ((call 7 [.ref m, v0] (jm_H m I A L rest z)).getD (none, (jm_H m I A L rest z))).2 := by
  obtain ⟨⟨r, h'⟩, hv⟩ := Option.isSome_iff_exists.mp hc
  rw [hv]
  exact je_virt (y := 7) (as := [v0]) D6_259 rfl (by decide) (by decide) rfl jm_cl hw hv
theorem D6_262 : decode (jt_code 6) 262 = .ok (.iinc 6 1, 3) := by decide +kernel
theorem E6_262 {call : jv_F} {l0 l1 l2 l3 l4 l5 : Option Value} {x : Int32} {st : List Value} {h : jv_H} (hk : ¬ jv_is2 (some l5) = true) : jv_ev call 6 262 [l0, l1, l2, l3, l4, l5, some (.int x)] st h = jv_ev call 6 265 [l0, l1, l2, l3, l4, l5, some (.int (x + (nI 1)))] st h := je_iinc D6_262 rfl rfl (v := x + (nI 1)) (by rfl) (by show jv_st1 _ 6 _ = _; simp only [jv_st1, jv_kill, List.getElem?_cons_succ, List.getElem?_cons_zero, hk, if_false]; rfl)
theorem D6_265 : decode (jt_code 6) 265 = .ok (.goto (-52), 3) := by decide +kernel
theorem E6_265 {call : jv_F} {l0 l1 l2 l3 l4 l5 l6 : Option Value}  {st : List Value} {h : jv_H} : jv_ev call 6 265 [l0, l1, l2, l3, l4, l5, l6] st h = jv_ev call 6 213 [l0, l1, l2, l3, l4, l5, l6] st h := je_goto D6_265 (by decide)
theorem D6_268 : decode (jt_code 6) 268 = .ok (.iload 4, 2) := by decide +kernel
theorem E6_268 {call : jv_F} {l0 l1 l2 l3 l5 l6 : Option Value} {x : Int32} {st : List Value} {h : jv_H} : jv_ev call 6 268 [l0, l1, l2, l3, some (.int x), l5, l6] st h = jv_ev call 6 270 [l0, l1, l2, l3, some (.int x), l5, l6] (.int x :: st) h := je_iload D6_268 rfl rfl
theorem D6_270 : decode (jt_code 6) 270 = .ok (.ireturn, 1) := by decide +kernel
theorem E6_270 {call : jv_F} {l0 l1 l2 l3 l4 l5 l6 : Option Value} {v : Int32} {h : jv_H} : jv_ev call 6 270 [l0, l1, l2, l3, l4, l5, l6] [.int v] h = some (some (.int v), h) := je_iret (ty := .int) D6_270 rfl rfl rfl
/-! method 7: DrumMachineModel.exist -/
theorem N7 {d : Nat} {b : Nat} {a0 : Int32} {h : jv_H} : jv_run (d + 1) 7 [.ref b, .int a0] h = jv_ev (jv_run d) 7 0 [some (.ref b), some (.int a0)] [] h := jv_run_eq (Nat.le_of_ble_eq_true rfl) rfl
theorem D7_0 : decode (jt_code 7) 0 = .ok (.aload_n 0, 1) := by decide +kernel
theorem E7_0 {call : jv_F} {l1 : Option Value} {a : Nat} {st : List Value} {h : jv_H} : jv_ev call 7 0 [some (.ref a), l1] st h = jv_ev call 7 1 [some (.ref a), l1] (.ref a :: st) h := je_aload_n (r := some a) D7_0 rfl rfl
theorem D7_1 : decode (jt_code 7) 1 = .ok (.getfield 63, 3) := by decide +kernel
theorem E7_1 {call : jv_F} {l0 l1 : Option Value}  {st : List Value} {m : Nat} {I : Nat → Int32} {A : Nat → Nat → Int32} {L : Nat → Nat → Int64} {rest : Nat → Option jv_C} {z : Nat × Nat} : jv_ev call 7 1 [l0, l1] (.ref m :: st) (jm_H m I A L rest z) = jv_ev call 7 4 [l0, l1] (.ref (m + 17) :: st) (jm_H m I A L rest z) := je_get D7_1 rfl (by decide) jm_g20
theorem D7_4 : decode (jt_code 7) 4 = .ok (.iload_n 1, 1) := by decide +kernel
theorem E7_4 {call : jv_F} {l0 : Option Value} {x : Int32} {st : List Value} {h : jv_H} : jv_ev call 7 4 [l0, some (.int x)] st h = jv_ev call 7 5 [l0, some (.int x)] (.int x :: st) h := je_iload_n D7_4 rfl rfl
theorem D7_5 : decode (jt_code 7) 5 = .ok (.iconst 1, 1) := by decide +kernel
theorem E7_5 {call : jv_F} {l0 l1 : Option Value}  {st : List Value} {h : jv_H} : jv_ev call 7 5 [l0, l1] st h = jv_ev call 7 6 [l0, l1] (.int (nI 1) :: st) h := je_iconst D7_5 rfl (by decide)
theorem D7_6 : decode (jt_code 7) 6 = .ok (.bastore, 1) := by decide +kernel
theorem E7_6 {call : jv_F} {l0 l1 : Option Value} {i : Nat} {v : Int32} {st : List Value} {m : Nat} {I : Nat → Int32} {A : Nat → Nat → Int32} {L : Nat → Nat → Int64} {rest : Nat → Option jv_C} {z : Nat × Nat} (hi : i < 768) (hv : narrow .boolean (.int v) = .int v) : jv_ev call 7 6 [l0, l1] (.int v :: .int (nI i) :: .ref (m + 17) :: st) (jm_H m I A L rest z) = jv_ev call 7 7 [l0, l1] st (jm_H m I (va_up A 20 (upd (A 20) i v)) L rest z) := je_bast D7_6 rfl (by rw [hv]; exact jm_s20 hi)
theorem D7_7 : decode (jt_code 7) 7 = .ok (.aload_n 0, 1) := by decide +kernel
theorem E7_7 {call : jv_F} {l1 : Option Value} {a : Nat} {st : List Value} {h : jv_H} : jv_ev call 7 7 [some (.ref a), l1] st h = jv_ev call 7 8 [some (.ref a), l1] (.ref a :: st) h := je_aload_n (r := some a) D7_7 rfl rfl
theorem D7_8 : decode (jt_code 7) 8 = .ok (.dup, 1) := by decide +kernel
theorem E7_8 {call : jv_F} {l0 l1 : Option Value} {a : Nat} {st : List Value} {h : jv_H} : jv_ev call 7 8 [l0, l1] (.ref a :: st) h = jv_ev call 7 9 [l0, l1] (.ref a :: .ref a :: st) h := je_dup D7_8 rfl rfl
theorem E7_8i {call : jv_F} {l0 l1 : Option Value} {x : Int32} {st : List Value} {h : jv_H} : jv_ev call 7 8 [l0, l1] (.int x :: st) h = jv_ev call 7 9 [l0, l1] (.int x :: .int x :: st) h := je_dup D7_8 rfl rfl
theorem D7_9 : decode (jt_code 7) 9 = .ok (.getfield 110, 3) := by decide +kernel
theorem E7_9 {call : jv_F} {l0 l1 : Option Value}  {st : List Value} {m : Nat} {I : Nat → Int32} {A : Nat → Nat → Int32} {L : Nat → Nat → Int64} {rest : Nat → Option jv_C} {z : Nat × Nat} : jv_ev call 7 9 [l0, l1] (.ref m :: st) (jm_H m I A L rest z) = jv_ev call 7 12 [l0, l1] (.int (I 22) :: st) (jm_H m I A L rest z) := je_get D7_9 rfl (by decide) jm_g22
theorem D7_12 : decode (jt_code 7) 12 = .ok (.iconst 1, 1) := by decide +kernel
theorem E7_12 {call : jv_F} {l0 l1 : Option Value}  {st : List Value} {h : jv_H} : jv_ev call 7 12 [l0, l1] st h = jv_ev call 7 13 [l0, l1] (.int (nI 1) :: st) h := je_iconst D7_12 rfl (by decide)
theorem D7_13 : decode (jt_code 7) 13 = .ok (.iadd, 1) := by decide +kernel
theorem E7_13 {call : jv_F} {l0 l1 : Option Value} {x y : Int32} {st : List Value} {h : jv_H} : jv_ev call 7 13 [l0, l1] (.int y :: .int x :: st) h = jv_ev call 7 14 [l0, l1] (.int (x + y) :: st) h := je_b2 (f := fun x y => x + y) D7_13 rfl (fun _ => rfl)
theorem D7_14 : decode (jt_code 7) 14 = .ok (.putfield 110, 3) := by decide +kernel
theorem E7_14 {call : jv_F} {l0 l1 : Option Value} {v : Int32} {st : List Value} {m : Nat} {I : Nat → Int32} {A : Nat → Nat → Int32} {L : Nat → Nat → Int64} {rest : Nat → Option jv_C} {z : Nat × Nat} : jv_ev call 7 14 [l0, l1] (.int v :: .ref m :: st) (jm_H m I A L rest z) = jv_ev call 7 17 [l0, l1] st (jm_H m (upd I 22 v) A L rest z) := je_put D7_14 rfl (by decide) (by decide) jm_p22
theorem D7_17 : decode (jt_code 7) 17 = .ok (.return_, 1) := by decide +kernel
theorem E7_17 {call : jv_F} {l0 l1 : Option Value}  {h : jv_H} : jv_ev call 7 17 [l0, l1] [] h = some (none, h) := je_ret D7_17 rfl
/-! method 8: DrumMachineModel.frameOf -/
theorem N8 {d : Nat} {b : Nat} {a0 : Int32} {h : jv_H} : jv_run (d + 1) 8 [.ref b, .int a0] h = jv_ev (jv_run d) 8 0 [some (.ref b), some (.int a0), none] [] h := jv_run_eq (Nat.le_of_ble_eq_true rfl) rfl
theorem D8_0 : decode (jt_code 8) 0 = .ok (.iconst 0, 1) := by decide +kernel
theorem E8_0 {call : jv_F} {l0 l1 l2 : Option Value}  {st : List Value} {h : jv_H} : jv_ev call 8 0 [l0, l1, l2] st h = jv_ev call 8 1 [l0, l1, l2] (.int (nI 0) :: st) h := je_iconst D8_0 rfl (by decide)
theorem D8_1 : decode (jt_code 8) 1 = .ok (.istore_n 2, 1) := by decide +kernel
theorem E8_1 {call : jv_F} {l0 l1 l2 : Option Value} {x : Int32} {st : List Value} {h : jv_H} (hk : ¬ jv_is2 (some l1) = true) : jv_ev call 8 1 [l0, l1, l2] (.int x :: st) h = jv_ev call 8 2 [l0, l1, some (.int x)] st h := je_istore_n D8_1 rfl (Nat.le_of_ble_eq_true rfl) (by show jv_st1 _ 2 _ = _; simp only [jv_st1, jv_kill, List.getElem?_cons_succ, List.getElem?_cons_zero, hk, if_false]; rfl)
theorem D8_2 : decode (jt_code 8) 2 = .ok (.iload_n 2, 1) := by decide +kernel
theorem E8_2 {call : jv_F} {l0 l1 : Option Value} {x : Int32} {st : List Value} {h : jv_H} : jv_ev call 8 2 [l0, l1, some (.int x)] st h = jv_ev call 8 3 [l0, l1, some (.int x)] (.int x :: st) h := je_iload_n D8_2 rfl rfl
theorem D8_3 : decode (jt_code 8) 3 = .ok (.aload_n 0, 1) := by decide +kernel
theorem E8_3 {call : jv_F} {l1 l2 : Option Value} {a : Nat} {st : List Value} {h : jv_H} : jv_ev call 8 3 [some (.ref a), l1, l2] st h = jv_ev call 8 4 [some (.ref a), l1, l2] (.ref a :: st) h := je_aload_n (r := some a) D8_3 rfl rfl
theorem D8_4 : decode (jt_code 8) 4 = .ok (.getfield 7, 3) := by decide +kernel
theorem E8_4 {call : jv_F} {l0 l1 l2 : Option Value}  {st : List Value} {m : Nat} {I : Nat → Int32} {A : Nat → Nat → Int32} {L : Nat → Nat → Int64} {rest : Nat → Option jv_C} {z : Nat × Nat} : jv_ev call 8 4 [l0, l1, l2] (.ref m :: st) (jm_H m I A L rest z) = jv_ev call 8 7 [l0, l1, l2] (.int (I 0) :: st) (jm_H m I A L rest z) := je_get D8_4 rfl (by decide) jm_g0
theorem D8_7 : decode (jt_code 8) 7 = .ok (.if_icmp .ge 21, 3) := by decide +kernel
theorem E8_7 {call : jv_F} {l0 l1 l2 : Option Value} {x y : Int32} {st : List Value} {h : jv_H} : jv_ev call 8 7 [l0, l1, l2] (.int y :: .int x :: st) h = if y ≤ x then jv_ev call 8 28 [l0, l1, l2] st h else jv_ev call 8 10 [l0, l1, l2] st h := je_icmp D8_7 (by decide) rfl rfl
theorem D8_10 : decode (jt_code 8) 10 = .ok (.aload_n 0, 1) := by decide +kernel
theorem E8_10 {call : jv_F} {l1 l2 : Option Value} {a : Nat} {st : List Value} {h : jv_H} : jv_ev call 8 10 [some (.ref a), l1, l2] st h = jv_ev call 8 11 [some (.ref a), l1, l2] (.ref a :: st) h := je_aload_n (r := some a) D8_10 rfl rfl
theorem D8_11 : decode (jt_code 8) 11 = .ok (.getfield 70, 3) := by decide +kernel
theorem E8_11 {call : jv_F} {l0 l1 l2 : Option Value}  {st : List Value} {m : Nat} {I : Nat → Int32} {A : Nat → Nat → Int32} {L : Nat → Nat → Int64} {rest : Nat → Option jv_C} {z : Nat × Nat} : jv_ev call 8 11 [l0, l1, l2] (.ref m :: st) (jm_H m I A L rest z) = jv_ev call 8 14 [l0, l1, l2] (.ref (m + 19) :: st) (jm_H m I A L rest z) := je_get D8_11 rfl (by decide) jm_g23
theorem D8_14 : decode (jt_code 8) 14 = .ok (.iload_n 2, 1) := by decide +kernel
theorem E8_14 {call : jv_F} {l0 l1 : Option Value} {x : Int32} {st : List Value} {h : jv_H} : jv_ev call 8 14 [l0, l1, some (.int x)] st h = jv_ev call 8 15 [l0, l1, some (.int x)] (.int x :: st) h := je_iload_n D8_14 rfl rfl
theorem D8_15 : decode (jt_code 8) 15 = .ok (.iaload, 1) := by decide +kernel
theorem E8_15 {call : jv_F} {l0 l1 l2 : Option Value} {i : Nat} {st : List Value} {m : Nat} {I : Nat → Int32} {A : Nat → Nat → Int32} {L : Nat → Nat → Int64} {rest : Nat → Option jv_C} {z : Nat × Nat} (hi : i < 17) : jv_ev call 8 15 [l0, l1, l2] (.int (nI i) :: .ref (m + 19) :: st) (jm_H m I A L rest z) = jv_ev call 8 16 [l0, l1, l2] (.int (A 23 i) :: st) (jm_H m I A L rest z) := je_iald D8_15 rfl (jm_l23 hi)
theorem D8_16 : decode (jt_code 8) 16 = .ok (.iload_n 1, 1) := by decide +kernel
theorem E8_16 {call : jv_F} {l0 l2 : Option Value} {x : Int32} {st : List Value} {h : jv_H} : jv_ev call 8 16 [l0, some (.int x), l2] st h = jv_ev call 8 17 [l0, some (.int x), l2] (.int x :: st) h := je_iload_n D8_16 rfl rfl
theorem D8_17 : decode (jt_code 8) 17 = .ok (.if_icmp .ne 5, 3) := by decide +kernel
theorem E8_17 {call : jv_F} {l0 l1 l2 : Option Value} {x y : Int32} {st : List Value} {h : jv_H} : jv_ev call 8 17 [l0, l1, l2] (.int y :: .int x :: st) h = if ¬ x = y then jv_ev call 8 22 [l0, l1, l2] st h else jv_ev call 8 20 [l0, l1, l2] st h := je_icmp D8_17 (by decide) rfl rfl
theorem D8_20 : decode (jt_code 8) 20 = .ok (.iload_n 2, 1) := by decide +kernel
theorem E8_20 {call : jv_F} {l0 l1 : Option Value} {x : Int32} {st : List Value} {h : jv_H} : jv_ev call 8 20 [l0, l1, some (.int x)] st h = jv_ev call 8 21 [l0, l1, some (.int x)] (.int x :: st) h := je_iload_n D8_20 rfl rfl
theorem D8_21 : decode (jt_code 8) 21 = .ok (.ireturn, 1) := by decide +kernel
theorem E8_21 {call : jv_F} {l0 l1 l2 : Option Value} {v : Int32} {h : jv_H} : jv_ev call 8 21 [l0, l1, l2] [.int v] h = some (some (.int v), h) := je_iret (ty := .int) D8_21 rfl rfl rfl
theorem D8_22 : decode (jt_code 8) 22 = .ok (.iinc 2 1, 3) := by decide +kernel
theorem E8_22 {call : jv_F} {l0 l1 : Option Value} {x : Int32} {st : List Value} {h : jv_H} (hk : ¬ jv_is2 (some l1) = true) : jv_ev call 8 22 [l0, l1, some (.int x)] st h = jv_ev call 8 25 [l0, l1, some (.int (x + (nI 1)))] st h := je_iinc D8_22 rfl rfl (v := x + (nI 1)) (by rfl) (by show jv_st1 _ 2 _ = _; simp only [jv_st1, jv_kill, List.getElem?_cons_succ, List.getElem?_cons_zero, hk, if_false]; rfl)
theorem D8_25 : decode (jt_code 8) 25 = .ok (.goto (-23), 3) := by decide +kernel
theorem E8_25 {call : jv_F} {l0 l1 l2 : Option Value}  {st : List Value} {h : jv_H} : jv_ev call 8 25 [l0, l1, l2] st h = jv_ev call 8 2 [l0, l1, l2] st h := je_goto D8_25 (by decide)
theorem D8_28 : decode (jt_code 8) 28 = .ok (.iconst (-1), 1) := by decide +kernel
theorem E8_28 {call : jv_F} {l0 l1 l2 : Option Value}  {st : List Value} {h : jv_H} : jv_ev call 8 28 [l0, l1, l2] st h = jv_ev call 8 29 [l0, l1, l2] (.int (-1) :: st) h := je_iconst D8_28 rfl (by decide)
theorem D8_29 : decode (jt_code 8) 29 = .ok (.ireturn, 1) := by decide +kernel
theorem E8_29 {call : jv_F} {l0 l1 l2 : Option Value} {v : Int32} {h : jv_H} : jv_ev call 8 29 [l0, l1, l2] [.int v] h = some (some (.int v), h) := je_iret (ty := .int) D8_29 rfl rfl rfl
/-! method 9: DrumMachineModel.sectorOf -/
theorem N9 {d : Nat} {b : Nat} {a0 : Int32} {h : jv_H} : jv_run (d + 1) 9 [.ref b, .int a0] h = jv_ev (jv_run d) 9 0 [some (.ref b), some (.int a0), none] [] h := jv_run_eq (Nat.le_of_ble_eq_true rfl) rfl
theorem D9_0 : decode (jt_code 9) 0 = .ok (.iconst 0, 1) := by decide +kernel
theorem E9_0 {call : jv_F} {l0 l1 l2 : Option Value}  {st : List Value} {h : jv_H} : jv_ev call 9 0 [l0, l1, l2] st h = jv_ev call 9 1 [l0, l1, l2] (.int (nI 0) :: st) h := je_iconst D9_0 rfl (by decide)
theorem D9_1 : decode (jt_code 9) 1 = .ok (.istore_n 2, 1) := by decide +kernel
theorem E9_1 {call : jv_F} {l0 l1 l2 : Option Value} {x : Int32} {st : List Value} {h : jv_H} (hk : ¬ jv_is2 (some l1) = true) : jv_ev call 9 1 [l0, l1, l2] (.int x :: st) h = jv_ev call 9 2 [l0, l1, some (.int x)] st h := je_istore_n D9_1 rfl (Nat.le_of_ble_eq_true rfl) (by show jv_st1 _ 2 _ = _; simp only [jv_st1, jv_kill, List.getElem?_cons_succ, List.getElem?_cons_zero, hk, if_false]; rfl)
theorem D9_2 : decode (jt_code 9) 2 = .ok (.iload_n 2, 1) := by decide +kernel
theorem E9_2 {call : jv_F} {l0 l1 : Option Value} {x : Int32} {st : List Value} {h : jv_H} : jv_ev call 9 2 [l0, l1, some (.int x)] st h = jv_ev call 9 3 [l0, l1, some (.int x)] (.int x :: st) h := je_iload_n D9_2 rfl rfl
theorem D9_3 : decode (jt_code 9) 3 = .ok (.bipush 64, 2) := by decide +kernel
theorem E9_3 {call : jv_F} {l0 l1 l2 : Option Value}  {st : List Value} {h : jv_H} : jv_ev call 9 3 [l0, l1, l2] st h = jv_ev call 9 5 [l0, l1, l2] (.int (nI 64) :: st) h := je_bipush D9_3 rfl (by decide)
theorem D9_5 : decode (jt_code 9) 5 = .ok (.if_icmp .ge 21, 3) := by decide +kernel
theorem E9_5 {call : jv_F} {l0 l1 l2 : Option Value} {x y : Int32} {st : List Value} {h : jv_H} : jv_ev call 9 5 [l0, l1, l2] (.int y :: .int x :: st) h = if y ≤ x then jv_ev call 9 26 [l0, l1, l2] st h else jv_ev call 9 8 [l0, l1, l2] st h := je_icmp D9_5 (by decide) rfl rfl
theorem D9_8 : decode (jt_code 9) 8 = .ok (.aload_n 0, 1) := by decide +kernel
theorem E9_8 {call : jv_F} {l1 l2 : Option Value} {a : Nat} {st : List Value} {h : jv_H} : jv_ev call 9 8 [some (.ref a), l1, l2] st h = jv_ev call 9 9 [some (.ref a), l1, l2] (.ref a :: st) h := je_aload_n (r := some a) D9_8 rfl rfl
theorem D9_9 : decode (jt_code 9) 9 = .ok (.getfield 85, 3) := by decide +kernel
theorem E9_9 {call : jv_F} {l0 l1 l2 : Option Value}  {st : List Value} {m : Nat} {I : Nat → Int32} {A : Nat → Nat → Int32} {L : Nat → Nat → Int64} {rest : Nat → Option jv_C} {z : Nat × Nat} : jv_ev call 9 9 [l0, l1, l2] (.ref m :: st) (jm_H m I A L rest z) = jv_ev call 9 12 [l0, l1, l2] (.ref (m + 24) :: st) (jm_H m I A L rest z) := je_get D9_9 rfl (by decide) jm_g28
theorem D9_12 : decode (jt_code 9) 12 = .ok (.iload_n 2, 1) := by decide +kernel
theorem E9_12 {call : jv_F} {l0 l1 : Option Value} {x : Int32} {st : List Value} {h : jv_H} : jv_ev call 9 12 [l0, l1, some (.int x)] st h = jv_ev call 9 13 [l0, l1, some (.int x)] (.int x :: st) h := je_iload_n D9_12 rfl rfl
theorem D9_13 : decode (jt_code 9) 13 = .ok (.iaload, 1) := by decide +kernel
theorem E9_13 {call : jv_F} {l0 l1 l2 : Option Value} {i : Nat} {st : List Value} {m : Nat} {I : Nat → Int32} {A : Nat → Nat → Int32} {L : Nat → Nat → Int64} {rest : Nat → Option jv_C} {z : Nat × Nat} (hi : i < 64) : jv_ev call 9 13 [l0, l1, l2] (.int (nI i) :: .ref (m + 24) :: st) (jm_H m I A L rest z) = jv_ev call 9 14 [l0, l1, l2] (.int (A 28 i) :: st) (jm_H m I A L rest z) := je_iald D9_13 rfl (jm_l28 hi)
theorem D9_14 : decode (jt_code 9) 14 = .ok (.iload_n 1, 1) := by decide +kernel
theorem E9_14 {call : jv_F} {l0 l2 : Option Value} {x : Int32} {st : List Value} {h : jv_H} : jv_ev call 9 14 [l0, some (.int x), l2] st h = jv_ev call 9 15 [l0, some (.int x), l2] (.int x :: st) h := je_iload_n D9_14 rfl rfl
theorem D9_15 : decode (jt_code 9) 15 = .ok (.if_icmp .ne 5, 3) := by decide +kernel
theorem E9_15 {call : jv_F} {l0 l1 l2 : Option Value} {x y : Int32} {st : List Value} {h : jv_H} : jv_ev call 9 15 [l0, l1, l2] (.int y :: .int x :: st) h = if ¬ x = y then jv_ev call 9 20 [l0, l1, l2] st h else jv_ev call 9 18 [l0, l1, l2] st h := je_icmp D9_15 (by decide) rfl rfl
theorem D9_18 : decode (jt_code 9) 18 = .ok (.iload_n 2, 1) := by decide +kernel
theorem E9_18 {call : jv_F} {l0 l1 : Option Value} {x : Int32} {st : List Value} {h : jv_H} : jv_ev call 9 18 [l0, l1, some (.int x)] st h = jv_ev call 9 19 [l0, l1, some (.int x)] (.int x :: st) h := je_iload_n D9_18 rfl rfl
theorem D9_19 : decode (jt_code 9) 19 = .ok (.ireturn, 1) := by decide +kernel
theorem E9_19 {call : jv_F} {l0 l1 l2 : Option Value} {v : Int32} {h : jv_H} : jv_ev call 9 19 [l0, l1, l2] [.int v] h = some (some (.int v), h) := je_iret (ty := .int) D9_19 rfl rfl rfl
theorem D9_20 : decode (jt_code 9) 20 = .ok (.iinc 2 1, 3) := by decide +kernel
theorem E9_20 {call : jv_F} {l0 l1 : Option Value} {x : Int32} {st : List Value} {h : jv_H} (hk : ¬ jv_is2 (some l1) = true) : jv_ev call 9 20 [l0, l1, some (.int x)] st h = jv_ev call 9 23 [l0, l1, some (.int (x + (nI 1)))] st h := je_iinc D9_20 rfl rfl (v := x + (nI 1)) (by rfl) (by show jv_st1 _ 2 _ = _; simp only [jv_st1, jv_kill, List.getElem?_cons_succ, List.getElem?_cons_zero, hk, if_false]; rfl)
theorem D9_23 : decode (jt_code 9) 23 = .ok (.goto (-21), 3) := by decide +kernel
theorem E9_23 {call : jv_F} {l0 l1 l2 : Option Value}  {st : List Value} {h : jv_H} : jv_ev call 9 23 [l0, l1, l2] st h = jv_ev call 9 2 [l0, l1, l2] st h := je_goto D9_23 (by decide)
theorem D9_26 : decode (jt_code 9) 26 = .ok (.iconst (-1), 1) := by decide +kernel
theorem E9_26 {call : jv_F} {l0 l1 l2 : Option Value}  {st : List Value} {h : jv_H} : jv_ev call 9 26 [l0, l1, l2] st h = jv_ev call 9 27 [l0, l1, l2] (.int (-1) :: st) h := je_iconst D9_26 rfl (by decide)
theorem D9_27 : decode (jt_code 9) 27 = .ok (.ireturn, 1) := by decide +kernel
theorem E9_27 {call : jv_F} {l0 l1 l2 : Option Value} {v : Int32} {h : jv_H} : jv_ev call 9 27 [l0, l1, l2] [.int v] h = some (some (.int v), h) := je_iret (ty := .int) D9_27 rfl rfl rfl
/-! method 10: DrumMachineModel.freeFrame -/
theorem N10 {d : Nat} {b : Nat} {h : jv_H} : jv_run (d + 1) 10 [.ref b] h = jv_ev (jv_run d) 10 0 [some (.ref b)] [] h := jv_run_eq (Nat.le_of_ble_eq_true rfl) rfl
theorem D10_0 : decode (jt_code 10) 0 = .ok (.aload_n 0, 1) := by decide +kernel
theorem E10_0 {call : jv_F} {a : Nat} {st : List Value} {h : jv_H} : jv_ev call 10 0 [some (.ref a)] st h = jv_ev call 10 1 [some (.ref a)] (.ref a :: st) h := je_aload_n (r := some a) D10_0 rfl rfl
theorem D10_1 : decode (jt_code 10) 1 = .ok (.iconst (-1), 1) := by decide +kernel
theorem E10_1 {call : jv_F} {l0 : Option Value}  {st : List Value} {h : jv_H} : jv_ev call 10 1 [l0] st h = jv_ev call 10 2 [l0] (.int (-1) :: st) h := je_iconst D10_1 rfl (by decide)
theorem D10_2 : decode (jt_code 10) 2 = .ok (.invokevirtual 117, 3) := by decide +kernel
theorem E10_2 {call : jv_F} {l0 : Option Value} {v0 : Value}  {st : List Value} {m : Nat} {I : Nat → Int32} {A : Nat → Nat → Int32} {L : Nat → Nat → Int64} {rest : Nat → Option jv_C} {z : Nat × Nat} (hw : jv_wide st = true) (hc : (call 8 [.ref m, v0] (jm_H m I A L rest z)).isSome = true) : jv_ev call 10 2 [l0] (v0 :: .ref m :: st) (jm_H m I A L rest z) = jv_ev call 10 5 [l0] ((((call 8 [.ref m, v0] (jm_H m I A L rest z)).getD (none, (jm_H m I A L rest z))).1).toList ++ st) ((call 8 [.ref m, v0] (jm_H m I A L rest z)).getD (none, (jm_H m I A L rest z))).2 := by
  obtain ⟨⟨r, h'⟩, hv⟩ := Option.isSome_iff_exists.mp hc
  rw [hv]
  exact je_virt (y := 8) (as := [v0]) D10_2 rfl (by decide) (by decide) rfl jm_cl hw hv
theorem D10_5 : decode (jt_code 10) 5 = .ok (.ireturn, 1) := by decide +kernel
theorem E10_5 {call : jv_F} {l0 : Option Value} {v : Int32} {h : jv_H} : jv_ev call 10 5 [l0] [.int v] h = some (some (.int v), h) := je_iret (ty := .int) D10_5 rfl rfl rfl
/-! method 11: DrumMachineModel.notEnded -/
theorem N11 {d : Nat} {b : Nat} {h : jv_H} : jv_run (d + 1) 11 [.ref b] h = jv_ev (jv_run d) 11 0 [some (.ref b), none, none] [] h := jv_run_eq (Nat.le_of_ble_eq_true rfl) rfl
theorem D11_0 : decode (jt_code 11) 0 = .ok (.iconst 0, 1) := by decide +kernel
theorem E11_0 {call : jv_F} {l0 l1 l2 : Option Value}  {st : List Value} {h : jv_H} : jv_ev call 11 0 [l0, l1, l2] st h = jv_ev call 11 1 [l0, l1, l2] (.int (nI 0) :: st) h := je_iconst D11_0 rfl (by decide)
theorem D11_1 : decode (jt_code 11) 1 = .ok (.istore_n 1, 1) := by decide +kernel
theorem E11_1 {call : jv_F} {l0 l1 l2 : Option Value} {x : Int32} {st : List Value} {h : jv_H} (hk : ¬ jv_is2 (some l0) = true) : jv_ev call 11 1 [l0, l1, l2] (.int x :: st) h = jv_ev call 11 2 [l0, some (.int x), l2] st h := je_istore_n D11_1 rfl (Nat.le_of_ble_eq_true rfl) (by show jv_st1 _ 1 _ = _; simp only [jv_st1, jv_kill, List.getElem?_cons_succ, List.getElem?_cons_zero, hk, if_false]; rfl)
theorem D11_2 : decode (jt_code 11) 2 = .ok (.iconst 0, 1) := by decide +kernel
theorem E11_2 {call : jv_F} {l0 l1 l2 : Option Value}  {st : List Value} {h : jv_H} : jv_ev call 11 2 [l0, l1, l2] st h = jv_ev call 11 3 [l0, l1, l2] (.int (nI 0) :: st) h := je_iconst D11_2 rfl (by decide)
theorem D11_3 : decode (jt_code 11) 3 = .ok (.istore_n 2, 1) := by decide +kernel
theorem E11_3 {call : jv_F} {l0 l1 l2 : Option Value} {x : Int32} {st : List Value} {h : jv_H} (hk : ¬ jv_is2 (some l1) = true) : jv_ev call 11 3 [l0, l1, l2] (.int x :: st) h = jv_ev call 11 4 [l0, l1, some (.int x)] st h := je_istore_n D11_3 rfl (Nat.le_of_ble_eq_true rfl) (by show jv_st1 _ 2 _ = _; simp only [jv_st1, jv_kill, List.getElem?_cons_succ, List.getElem?_cons_zero, hk, if_false]; rfl)
theorem D11_4 : decode (jt_code 11) 4 = .ok (.iload_n 2, 1) := by decide +kernel
theorem E11_4 {call : jv_F} {l0 l1 : Option Value} {x : Int32} {st : List Value} {h : jv_H} : jv_ev call 11 4 [l0, l1, some (.int x)] st h = jv_ev call 11 5 [l0, l1, some (.int x)] (.int x :: st) h := je_iload_n D11_4 rfl rfl
theorem D11_5 : decode (jt_code 11) 5 = .ok (.aload_n 0, 1) := by decide +kernel
theorem E11_5 {call : jv_F} {l1 l2 : Option Value} {a : Nat} {st : List Value} {h : jv_H} : jv_ev call 11 5 [some (.ref a), l1, l2] st h = jv_ev call 11 6 [some (.ref a), l1, l2] (.ref a :: st) h := je_aload_n (r := some a) D11_5 rfl rfl
theorem D11_6 : decode (jt_code 11) 6 = .ok (.getfield 97, 3) := by decide +kernel
theorem E11_6 {call : jv_F} {l0 l1 l2 : Option Value}  {st : List Value} {m : Nat} {I : Nat → Int32} {A : Nat → Nat → Int32} {L : Nat → Nat → Int64} {rest : Nat → Option jv_C} {z : Nat × Nat} : jv_ev call 11 6 [l0, l1, l2] (.ref m :: st) (jm_H m I A L rest z) = jv_ev call 11 9 [l0, l1, l2] (.int (I 5) :: st) (jm_H m I A L rest z) := je_get D11_6 rfl (by decide) jm_g5
theorem D11_9 : decode (jt_code 11) 9 = .ok (.if_icmp .ge 26, 3) := by decide +kernel
theorem E11_9 {call : jv_F} {l0 l1 l2 : Option Value} {x y : Int32} {st : List Value} {h : jv_H} : jv_ev call 11 9 [l0, l1, l2] (.int y :: .int x :: st) h = if y ≤ x then jv_ev call 11 35 [l0, l1, l2] st h else jv_ev call 11 12 [l0, l1, l2] st h := je_icmp D11_9 (by decide) rfl rfl
theorem D11_12 : decode (jt_code 11) 12 = .ok (.iload_n 1, 1) := by decide +kernel
theorem E11_12 {call : jv_F} {l0 l2 : Option Value} {x : Int32} {st : List Value} {h : jv_H} : jv_ev call 11 12 [l0, some (.int x), l2] st h = jv_ev call 11 13 [l0, some (.int x), l2] (.int x :: st) h := je_iload_n D11_12 rfl rfl
theorem D11_13 : decode (jt_code 11) 13 = .ok (.aload_n 0, 1) := by decide +kernel
theorem E11_13 {call : jv_F} {l1 l2 : Option Value} {a : Nat} {st : List Value} {h : jv_H} : jv_ev call 11 13 [some (.ref a), l1, l2] st h = jv_ev call 11 14 [some (.ref a), l1, l2] (.ref a :: st) h := je_aload_n (r := some a) D11_13 rfl rfl
theorem D11_14 : decode (jt_code 11) 14 = .ok (.getfield 27, 3) := by decide +kernel
theorem E11_14 {call : jv_F} {l0 l1 l2 : Option Value}  {st : List Value} {m : Nat} {I : Nat → Int32} {A : Nat → Nat → Int32} {L : Nat → Nat → Int64} {rest : Nat → Option jv_C} {z : Nat × Nat} : jv_ev call 11 14 [l0, l1, l2] (.ref m :: st) (jm_H m I A L rest z) = jv_ev call 11 17 [l0, l1, l2] (.ref (m + 5) :: st) (jm_H m I A L rest z) := je_get D11_14 rfl (by decide) jm_g8
theorem D11_17 : decode (jt_code 11) 17 = .ok (.iload_n 2, 1) := by decide +kernel
theorem E11_17 {call : jv_F} {l0 l1 : Option Value} {x : Int32} {st : List Value} {h : jv_H} : jv_ev call 11 17 [l0, l1, some (.int x)] st h = jv_ev call 11 18 [l0, l1, some (.int x)] (.int x :: st) h := je_iload_n D11_17 rfl rfl
theorem D11_18 : decode (jt_code 11) 18 = .ok (.iaload, 1) := by decide +kernel
theorem E11_18 {call : jv_F} {l0 l1 l2 : Option Value} {i : Nat} {st : List Value} {m : Nat} {I : Nat → Int32} {A : Nat → Nat → Int32} {L : Nat → Nat → Int64} {rest : Nat → Option jv_C} {z : Nat × Nat} (hi : i < 12) : jv_ev call 11 18 [l0, l1, l2] (.int (nI i) :: .ref (m + 5) :: st) (jm_H m I A L rest z) = jv_ev call 11 19 [l0, l1, l2] (.int (A 8 i) :: st) (jm_H m I A L rest z) := je_iald D11_18 rfl (jm_l8 hi)
theorem D11_19 : decode (jt_code 11) 19 = .ok (.ifCond .ne 7, 3) := by decide +kernel
theorem E11_19 {call : jv_F} {l0 l1 l2 : Option Value} {x : Int32} {st : List Value} {h : jv_H} : jv_ev call 11 19 [l0, l1, l2] (.int x :: st) h = if ¬ x = 0 then jv_ev call 11 26 [l0, l1, l2] st h else jv_ev call 11 22 [l0, l1, l2] st h := je_ifc D11_19 (by decide) rfl rfl
theorem D11_22 : decode (jt_code 11) 22 = .ok (.iconst 1, 1) := by decide +kernel
theorem E11_22 {call : jv_F} {l0 l1 l2 : Option Value}  {st : List Value} {h : jv_H} : jv_ev call 11 22 [l0, l1, l2] st h = jv_ev call 11 23 [l0, l1, l2] (.int (nI 1) :: st) h := je_iconst D11_22 rfl (by decide)
theorem D11_23 : decode (jt_code 11) 23 = .ok (.goto 4, 3) := by decide +kernel
theorem E11_23 {call : jv_F} {l0 l1 l2 : Option Value}  {st : List Value} {h : jv_H} : jv_ev call 11 23 [l0, l1, l2] st h = jv_ev call 11 27 [l0, l1, l2] st h := je_goto D11_23 (by decide)
theorem D11_26 : decode (jt_code 11) 26 = .ok (.iconst 0, 1) := by decide +kernel
theorem E11_26 {call : jv_F} {l0 l1 l2 : Option Value}  {st : List Value} {h : jv_H} : jv_ev call 11 26 [l0, l1, l2] st h = jv_ev call 11 27 [l0, l1, l2] (.int (nI 0) :: st) h := je_iconst D11_26 rfl (by decide)
theorem D11_27 : decode (jt_code 11) 27 = .ok (.iadd, 1) := by decide +kernel
theorem E11_27 {call : jv_F} {l0 l1 l2 : Option Value} {x y : Int32} {st : List Value} {h : jv_H} : jv_ev call 11 27 [l0, l1, l2] (.int y :: .int x :: st) h = jv_ev call 11 28 [l0, l1, l2] (.int (x + y) :: st) h := je_b2 (f := fun x y => x + y) D11_27 rfl (fun _ => rfl)
theorem D11_28 : decode (jt_code 11) 28 = .ok (.istore_n 1, 1) := by decide +kernel
theorem E11_28 {call : jv_F} {l0 l1 l2 : Option Value} {x : Int32} {st : List Value} {h : jv_H} (hk : ¬ jv_is2 (some l0) = true) : jv_ev call 11 28 [l0, l1, l2] (.int x :: st) h = jv_ev call 11 29 [l0, some (.int x), l2] st h := je_istore_n D11_28 rfl (Nat.le_of_ble_eq_true rfl) (by show jv_st1 _ 1 _ = _; simp only [jv_st1, jv_kill, List.getElem?_cons_succ, List.getElem?_cons_zero, hk, if_false]; rfl)
theorem D11_29 : decode (jt_code 11) 29 = .ok (.iinc 2 1, 3) := by decide +kernel
theorem E11_29 {call : jv_F} {l0 l1 : Option Value} {x : Int32} {st : List Value} {h : jv_H} (hk : ¬ jv_is2 (some l1) = true) : jv_ev call 11 29 [l0, l1, some (.int x)] st h = jv_ev call 11 32 [l0, l1, some (.int (x + (nI 1)))] st h := je_iinc D11_29 rfl rfl (v := x + (nI 1)) (by rfl) (by show jv_st1 _ 2 _ = _; simp only [jv_st1, jv_kill, List.getElem?_cons_succ, List.getElem?_cons_zero, hk, if_false]; rfl)
theorem D11_32 : decode (jt_code 11) 32 = .ok (.goto (-28), 3) := by decide +kernel
theorem E11_32 {call : jv_F} {l0 l1 l2 : Option Value}  {st : List Value} {h : jv_H} : jv_ev call 11 32 [l0, l1, l2] st h = jv_ev call 11 4 [l0, l1, l2] st h := je_goto D11_32 (by decide)
theorem D11_35 : decode (jt_code 11) 35 = .ok (.iload_n 1, 1) := by decide +kernel
theorem E11_35 {call : jv_F} {l0 l2 : Option Value} {x : Int32} {st : List Value} {h : jv_H} : jv_ev call 11 35 [l0, some (.int x), l2] st h = jv_ev call 11 36 [l0, some (.int x), l2] (.int x :: st) h := je_iload_n D11_35 rfl rfl
theorem D11_36 : decode (jt_code 11) 36 = .ok (.ireturn, 1) := by decide +kernel
theorem E11_36 {call : jv_F} {l0 l1 l2 : Option Value} {v : Int32} {h : jv_H} : jv_ev call 11 36 [l0, l1, l2] [.int v] h = some (some (.int v), h) := je_iret (ty := .int) D11_36 rfl rfl rfl
/-! method 12: DrumMachineModel.isActive -/
theorem N12 {d : Nat} {b : Nat} {a0 : Int32} {h : jv_H} : jv_run (d + 1) 12 [.ref b, .int a0] h = jv_ev (jv_run d) 12 0 [some (.ref b), some (.int a0), none, none] [] h := jv_run_eq (Nat.le_of_ble_eq_true rfl) rfl
theorem D12_0 : decode (jt_code 12) 0 = .ok (.aload_n 0, 1) := by decide +kernel
theorem E12_0 {call : jv_F} {l1 l2 l3 : Option Value} {a : Nat} {st : List Value} {h : jv_H} : jv_ev call 12 0 [some (.ref a), l1, l2, l3] st h = jv_ev call 12 1 [some (.ref a), l1, l2, l3] (.ref a :: st) h := je_aload_n (r := some a) D12_0 rfl rfl
theorem D12_1 : decode (jt_code 12) 1 = .ok (.getfield 27, 3) := by decide +kernel
theorem E12_1 {call : jv_F} {l0 l1 l2 l3 : Option Value}  {st : List Value} {m : Nat} {I : Nat → Int32} {A : Nat → Nat → Int32} {L : Nat → Nat → Int64} {rest : Nat → Option jv_C} {z : Nat × Nat} : jv_ev call 12 1 [l0, l1, l2, l3] (.ref m :: st) (jm_H m I A L rest z) = jv_ev call 12 4 [l0, l1, l2, l3] (.ref (m + 5) :: st) (jm_H m I A L rest z) := je_get D12_1 rfl (by decide) jm_g8
theorem D12_4 : decode (jt_code 12) 4 = .ok (.iload_n 1, 1) := by decide +kernel
theorem E12_4 {call : jv_F} {l0 l2 l3 : Option Value} {x : Int32} {st : List Value} {h : jv_H} : jv_ev call 12 4 [l0, some (.int x), l2, l3] st h = jv_ev call 12 5 [l0, some (.int x), l2, l3] (.int x :: st) h := je_iload_n D12_4 rfl rfl
theorem D12_5 : decode (jt_code 12) 5 = .ok (.iaload, 1) := by decide +kernel
theorem E12_5 {call : jv_F} {l0 l1 l2 l3 : Option Value} {i : Nat} {st : List Value} {m : Nat} {I : Nat → Int32} {A : Nat → Nat → Int32} {L : Nat → Nat → Int64} {rest : Nat → Option jv_C} {z : Nat × Nat} (hi : i < 12) : jv_ev call 12 5 [l0, l1, l2, l3] (.int (nI i) :: .ref (m + 5) :: st) (jm_H m I A L rest z) = jv_ev call 12 6 [l0, l1, l2, l3] (.int (A 8 i) :: st) (jm_H m I A L rest z) := je_iald D12_5 rfl (jm_l8 hi)
theorem D12_6 : decode (jt_code 12) 6 = .ok (.ifCond .eq 5, 3) := by decide +kernel
theorem E12_6 {call : jv_F} {l0 l1 l2 l3 : Option Value} {x : Int32} {st : List Value} {h : jv_H} : jv_ev call 12 6 [l0, l1, l2, l3] (.int x :: st) h = if x = 0 then jv_ev call 12 11 [l0, l1, l2, l3] st h else jv_ev call 12 9 [l0, l1, l2, l3] st h := je_ifc D12_6 (by decide) rfl rfl
theorem D12_9 : decode (jt_code 12) 9 = .ok (.iconst 0, 1) := by decide +kernel
theorem E12_9 {call : jv_F} {l0 l1 l2 l3 : Option Value}  {st : List Value} {h : jv_H} : jv_ev call 12 9 [l0, l1, l2, l3] st h = jv_ev call 12 10 [l0, l1, l2, l3] (.int (nI 0) :: st) h := je_iconst D12_9 rfl (by decide)
theorem D12_10 : decode (jt_code 12) 10 = .ok (.ireturn, 1) := by decide +kernel
theorem E12_10 {call : jv_F} {l0 l1 l2 l3 : Option Value} {v : Int32} {h : jv_H} (hn : narrow .boolean (.int v) = .int v) (hf : fits .boolean (.int v) = true) : jv_ev call 12 10 [l0, l1, l2, l3] [.int v] h = some (some (.int v), h) := je_iret (ty := .boolean) D12_10 rfl hn hf
theorem D12_11 : decode (jt_code 12) 11 = .ok (.iconst 0, 1) := by decide +kernel
theorem E12_11 {call : jv_F} {l0 l1 l2 l3 : Option Value}  {st : List Value} {h : jv_H} : jv_ev call 12 11 [l0, l1, l2, l3] st h = jv_ev call 12 12 [l0, l1, l2, l3] (.int (nI 0) :: st) h := je_iconst D12_11 rfl (by decide)
theorem D12_12 : decode (jt_code 12) 12 = .ok (.istore_n 2, 1) := by decide +kernel
theorem E12_12 {call : jv_F} {l0 l1 l2 l3 : Option Value} {x : Int32} {st : List Value} {h : jv_H} (hk : ¬ jv_is2 (some l1) = true) : jv_ev call 12 12 [l0, l1, l2, l3] (.int x :: st) h = jv_ev call 12 13 [l0, l1, some (.int x), l3] st h := je_istore_n D12_12 rfl (Nat.le_of_ble_eq_true rfl) (by show jv_st1 _ 2 _ = _; simp only [jv_st1, jv_kill, List.getElem?_cons_succ, List.getElem?_cons_zero, hk, if_false]; rfl)
theorem D12_13 : decode (jt_code 12) 13 = .ok (.iconst 0, 1) := by decide +kernel
theorem E12_13 {call : jv_F} {l0 l1 l2 l3 : Option Value}  {st : List Value} {h : jv_H} : jv_ev call 12 13 [l0, l1, l2, l3] st h = jv_ev call 12 14 [l0, l1, l2, l3] (.int (nI 0) :: st) h := je_iconst D12_13 rfl (by decide)
theorem D12_14 : decode (jt_code 12) 14 = .ok (.istore_n 3, 1) := by decide +kernel
theorem E12_14 {call : jv_F} {l0 l1 l2 l3 : Option Value} {x : Int32} {st : List Value} {h : jv_H} (hk : ¬ jv_is2 (some l2) = true) : jv_ev call 12 14 [l0, l1, l2, l3] (.int x :: st) h = jv_ev call 12 15 [l0, l1, l2, some (.int x)] st h := je_istore_n D12_14 rfl (Nat.le_of_ble_eq_true rfl) (by show jv_st1 _ 3 _ = _; simp only [jv_st1, jv_kill, List.getElem?_cons_succ, List.getElem?_cons_zero, hk, if_false]; rfl)
theorem D12_15 : decode (jt_code 12) 15 = .ok (.iload_n 3, 1) := by decide +kernel
theorem E12_15 {call : jv_F} {l0 l1 l2 : Option Value} {x : Int32} {st : List Value} {h : jv_H} : jv_ev call 12 15 [l0, l1, l2, some (.int x)] st h = jv_ev call 12 16 [l0, l1, l2, some (.int x)] (.int x :: st) h := je_iload_n D12_15 rfl rfl
theorem D12_16 : decode (jt_code 12) 16 = .ok (.iload_n 1, 1) := by decide +kernel
theorem E12_16 {call : jv_F} {l0 l2 l3 : Option Value} {x : Int32} {st : List Value} {h : jv_H} : jv_ev call 12 16 [l0, some (.int x), l2, l3] st h = jv_ev call 12 17 [l0, some (.int x), l2, l3] (.int x :: st) h := je_iload_n D12_16 rfl rfl
theorem D12_17 : decode (jt_code 12) 17 = .ok (.if_icmp .ge 26, 3) := by decide +kernel
theorem E12_17 {call : jv_F} {l0 l1 l2 l3 : Option Value} {x y : Int32} {st : List Value} {h : jv_H} : jv_ev call 12 17 [l0, l1, l2, l3] (.int y :: .int x :: st) h = if y ≤ x then jv_ev call 12 43 [l0, l1, l2, l3] st h else jv_ev call 12 20 [l0, l1, l2, l3] st h := je_icmp D12_17 (by decide) rfl rfl
theorem D12_20 : decode (jt_code 12) 20 = .ok (.iload_n 2, 1) := by decide +kernel
theorem E12_20 {call : jv_F} {l0 l1 l3 : Option Value} {x : Int32} {st : List Value} {h : jv_H} : jv_ev call 12 20 [l0, l1, some (.int x), l3] st h = jv_ev call 12 21 [l0, l1, some (.int x), l3] (.int x :: st) h := je_iload_n D12_20 rfl rfl
theorem D12_21 : decode (jt_code 12) 21 = .ok (.aload_n 0, 1) := by decide +kernel
theorem E12_21 {call : jv_F} {l1 l2 l3 : Option Value} {a : Nat} {st : List Value} {h : jv_H} : jv_ev call 12 21 [some (.ref a), l1, l2, l3] st h = jv_ev call 12 22 [some (.ref a), l1, l2, l3] (.ref a :: st) h := je_aload_n (r := some a) D12_21 rfl rfl
theorem D12_22 : decode (jt_code 12) 22 = .ok (.getfield 27, 3) := by decide +kernel
theorem E12_22 {call : jv_F} {l0 l1 l2 l3 : Option Value}  {st : List Value} {m : Nat} {I : Nat → Int32} {A : Nat → Nat → Int32} {L : Nat → Nat → Int64} {rest : Nat → Option jv_C} {z : Nat × Nat} : jv_ev call 12 22 [l0, l1, l2, l3] (.ref m :: st) (jm_H m I A L rest z) = jv_ev call 12 25 [l0, l1, l2, l3] (.ref (m + 5) :: st) (jm_H m I A L rest z) := je_get D12_22 rfl (by decide) jm_g8
theorem D12_25 : decode (jt_code 12) 25 = .ok (.iload_n 3, 1) := by decide +kernel
theorem E12_25 {call : jv_F} {l0 l1 l2 : Option Value} {x : Int32} {st : List Value} {h : jv_H} : jv_ev call 12 25 [l0, l1, l2, some (.int x)] st h = jv_ev call 12 26 [l0, l1, l2, some (.int x)] (.int x :: st) h := je_iload_n D12_25 rfl rfl
theorem D12_26 : decode (jt_code 12) 26 = .ok (.iaload, 1) := by decide +kernel
theorem E12_26 {call : jv_F} {l0 l1 l2 l3 : Option Value} {i : Nat} {st : List Value} {m : Nat} {I : Nat → Int32} {A : Nat → Nat → Int32} {L : Nat → Nat → Int64} {rest : Nat → Option jv_C} {z : Nat × Nat} (hi : i < 12) : jv_ev call 12 26 [l0, l1, l2, l3] (.int (nI i) :: .ref (m + 5) :: st) (jm_H m I A L rest z) = jv_ev call 12 27 [l0, l1, l2, l3] (.int (A 8 i) :: st) (jm_H m I A L rest z) := je_iald D12_26 rfl (jm_l8 hi)
theorem D12_27 : decode (jt_code 12) 27 = .ok (.ifCond .ne 7, 3) := by decide +kernel
theorem E12_27 {call : jv_F} {l0 l1 l2 l3 : Option Value} {x : Int32} {st : List Value} {h : jv_H} : jv_ev call 12 27 [l0, l1, l2, l3] (.int x :: st) h = if ¬ x = 0 then jv_ev call 12 34 [l0, l1, l2, l3] st h else jv_ev call 12 30 [l0, l1, l2, l3] st h := je_ifc D12_27 (by decide) rfl rfl
theorem D12_30 : decode (jt_code 12) 30 = .ok (.iconst 1, 1) := by decide +kernel
theorem E12_30 {call : jv_F} {l0 l1 l2 l3 : Option Value}  {st : List Value} {h : jv_H} : jv_ev call 12 30 [l0, l1, l2, l3] st h = jv_ev call 12 31 [l0, l1, l2, l3] (.int (nI 1) :: st) h := je_iconst D12_30 rfl (by decide)
theorem D12_31 : decode (jt_code 12) 31 = .ok (.goto 4, 3) := by decide +kernel
theorem E12_31 {call : jv_F} {l0 l1 l2 l3 : Option Value}  {st : List Value} {h : jv_H} : jv_ev call 12 31 [l0, l1, l2, l3] st h = jv_ev call 12 35 [l0, l1, l2, l3] st h := je_goto D12_31 (by decide)
theorem D12_34 : decode (jt_code 12) 34 = .ok (.iconst 0, 1) := by decide +kernel
theorem E12_34 {call : jv_F} {l0 l1 l2 l3 : Option Value}  {st : List Value} {h : jv_H} : jv_ev call 12 34 [l0, l1, l2, l3] st h = jv_ev call 12 35 [l0, l1, l2, l3] (.int (nI 0) :: st) h := je_iconst D12_34 rfl (by decide)
theorem D12_35 : decode (jt_code 12) 35 = .ok (.iadd, 1) := by decide +kernel
theorem E12_35 {call : jv_F} {l0 l1 l2 l3 : Option Value} {x y : Int32} {st : List Value} {h : jv_H} : jv_ev call 12 35 [l0, l1, l2, l3] (.int y :: .int x :: st) h = jv_ev call 12 36 [l0, l1, l2, l3] (.int (x + y) :: st) h := je_b2 (f := fun x y => x + y) D12_35 rfl (fun _ => rfl)
theorem D12_36 : decode (jt_code 12) 36 = .ok (.istore_n 2, 1) := by decide +kernel
theorem E12_36 {call : jv_F} {l0 l1 l2 l3 : Option Value} {x : Int32} {st : List Value} {h : jv_H} (hk : ¬ jv_is2 (some l1) = true) : jv_ev call 12 36 [l0, l1, l2, l3] (.int x :: st) h = jv_ev call 12 37 [l0, l1, some (.int x), l3] st h := je_istore_n D12_36 rfl (Nat.le_of_ble_eq_true rfl) (by show jv_st1 _ 2 _ = _; simp only [jv_st1, jv_kill, List.getElem?_cons_succ, List.getElem?_cons_zero, hk, if_false]; rfl)
theorem D12_37 : decode (jt_code 12) 37 = .ok (.iinc 3 1, 3) := by decide +kernel
theorem E12_37 {call : jv_F} {l0 l1 l2 : Option Value} {x : Int32} {st : List Value} {h : jv_H} (hk : ¬ jv_is2 (some l2) = true) : jv_ev call 12 37 [l0, l1, l2, some (.int x)] st h = jv_ev call 12 40 [l0, l1, l2, some (.int (x + (nI 1)))] st h := je_iinc D12_37 rfl rfl (v := x + (nI 1)) (by rfl) (by show jv_st1 _ 3 _ = _; simp only [jv_st1, jv_kill, List.getElem?_cons_succ, List.getElem?_cons_zero, hk, if_false]; rfl)
theorem D12_40 : decode (jt_code 12) 40 = .ok (.goto (-25), 3) := by decide +kernel
theorem E12_40 {call : jv_F} {l0 l1 l2 l3 : Option Value}  {st : List Value} {h : jv_H} : jv_ev call 12 40 [l0, l1, l2, l3] st h = jv_ev call 12 15 [l0, l1, l2, l3] st h := je_goto D12_40 (by decide)
theorem D12_43 : decode (jt_code 12) 43 = .ok (.iload_n 2, 1) := by decide +kernel
theorem E12_43 {call : jv_F} {l0 l1 l3 : Option Value} {x : Int32} {st : List Value} {h : jv_H} : jv_ev call 12 43 [l0, l1, some (.int x), l3] st h = jv_ev call 12 44 [l0, l1, some (.int x), l3] (.int x :: st) h := je_iload_n D12_43 rfl rfl
theorem D12_44 : decode (jt_code 12) 44 = .ok (.aload_n 0, 1) := by decide +kernel
theorem E12_44 {call : jv_F} {l1 l2 l3 : Option Value} {a : Nat} {st : List Value} {h : jv_H} : jv_ev call 12 44 [some (.ref a), l1, l2, l3] st h = jv_ev call 12 45 [some (.ref a), l1, l2, l3] (.ref a :: st) h := je_aload_n (r := some a) D12_44 rfl rfl
theorem D12_45 : decode (jt_code 12) 45 = .ok (.getfield 7, 3) := by decide +kernel
theorem E12_45 {call : jv_F} {l0 l1 l2 l3 : Option Value}  {st : List Value} {m : Nat} {I : Nat → Int32} {A : Nat → Nat → Int32} {L : Nat → Nat → Int64} {rest : Nat → Option jv_C} {z : Nat × Nat} : jv_ev call 12 45 [l0, l1, l2, l3] (.ref m :: st) (jm_H m I A L rest z) = jv_ev call 12 48 [l0, l1, l2, l3] (.int (I 0) :: st) (jm_H m I A L rest z) := je_get D12_45 rfl (by decide) jm_g0
theorem D12_48 : decode (jt_code 12) 48 = .ok (.iconst 1, 1) := by decide +kernel
theorem E12_48 {call : jv_F} {l0 l1 l2 l3 : Option Value}  {st : List Value} {h : jv_H} : jv_ev call 12 48 [l0, l1, l2, l3] st h = jv_ev call 12 49 [l0, l1, l2, l3] (.int (nI 1) :: st) h := je_iconst D12_48 rfl (by decide)
theorem D12_49 : decode (jt_code 12) 49 = .ok (.isub, 1) := by decide +kernel
theorem E12_49 {call : jv_F} {l0 l1 l2 l3 : Option Value} {x y : Int32} {st : List Value} {h : jv_H} : jv_ev call 12 49 [l0, l1, l2, l3] (.int y :: .int x :: st) h = jv_ev call 12 50 [l0, l1, l2, l3] (.int (x - y) :: st) h := je_b2 (f := fun x y => x - y) D12_49 rfl (fun _ => rfl)
theorem D12_50 : decode (jt_code 12) 50 = .ok (.iconst 2, 1) := by decide +kernel
theorem E12_50 {call : jv_F} {l0 l1 l2 l3 : Option Value}  {st : List Value} {h : jv_H} : jv_ev call 12 50 [l0, l1, l2, l3] st h = jv_ev call 12 51 [l0, l1, l2, l3] (.int (nI 2) :: st) h := je_iconst D12_50 rfl (by decide)
theorem D12_51 : decode (jt_code 12) 51 = .ok (.idiv, 1) := by decide +kernel
theorem E12_51 {call : jv_F} {l0 l1 l2 l3 : Option Value} {x y : Int32} {st : List Value} {h : jv_H} (hy : ¬ y = 0) : jv_ev call 12 51 [l0, l1, l2, l3] (.int y :: .int x :: st) h = jv_ev call 12 52 [l0, l1, l2, l3] (.int (x / y) :: st) h := je_idiv D12_51 rfl hy
theorem D12_52 : decode (jt_code 12) 52 = .ok (.if_icmp .ge 7, 3) := by decide +kernel
theorem E12_52 {call : jv_F} {l0 l1 l2 l3 : Option Value} {x y : Int32} {st : List Value} {h : jv_H} : jv_ev call 12 52 [l0, l1, l2, l3] (.int y :: .int x :: st) h = if y ≤ x then jv_ev call 12 59 [l0, l1, l2, l3] st h else jv_ev call 12 55 [l0, l1, l2, l3] st h := je_icmp D12_52 (by decide) rfl rfl
theorem D12_55 : decode (jt_code 12) 55 = .ok (.iconst 1, 1) := by decide +kernel
theorem E12_55 {call : jv_F} {l0 l1 l2 l3 : Option Value}  {st : List Value} {h : jv_H} : jv_ev call 12 55 [l0, l1, l2, l3] st h = jv_ev call 12 56 [l0, l1, l2, l3] (.int (nI 1) :: st) h := je_iconst D12_55 rfl (by decide)
theorem D12_56 : decode (jt_code 12) 56 = .ok (.goto 4, 3) := by decide +kernel
theorem E12_56 {call : jv_F} {l0 l1 l2 l3 : Option Value}  {st : List Value} {h : jv_H} : jv_ev call 12 56 [l0, l1, l2, l3] st h = jv_ev call 12 60 [l0, l1, l2, l3] st h := je_goto D12_56 (by decide)
theorem D12_59 : decode (jt_code 12) 59 = .ok (.iconst 0, 1) := by decide +kernel
theorem E12_59 {call : jv_F} {l0 l1 l2 l3 : Option Value}  {st : List Value} {h : jv_H} : jv_ev call 12 59 [l0, l1, l2, l3] st h = jv_ev call 12 60 [l0, l1, l2, l3] (.int (nI 0) :: st) h := je_iconst D12_59 rfl (by decide)
theorem D12_60 : decode (jt_code 12) 60 = .ok (.ireturn, 1) := by decide +kernel
theorem E12_60 {call : jv_F} {l0 l1 l2 l3 : Option Value} {v : Int32} {h : jv_H} (hn : narrow .boolean (.int v) = .int v) (hf : fits .boolean (.int v) = true) : jv_ev call 12 60 [l0, l1, l2, l3] [.int v] h = some (some (.int v), h) := je_iret (ty := .boolean) D12_60 rfl hn hf
/-! method 13: DrumMachineModel.isReady -/
theorem N13 {d : Nat} {b : Nat} {a0 : Int32} {h : jv_H} : jv_run (d + 1) 13 [.ref b, .int a0] h = jv_ev (jv_run d) 13 0 [some (.ref b), some (.int a0), none] [] h := jv_run_eq (Nat.le_of_ble_eq_true rfl) rfl
theorem D13_0 : decode (jt_code 13) 0 = .ok (.aload_n 0, 1) := by decide +kernel
theorem E13_0 {call : jv_F} {l1 l2 : Option Value} {a : Nat} {st : List Value} {h : jv_H} : jv_ev call 13 0 [some (.ref a), l1, l2] st h = jv_ev call 13 1 [some (.ref a), l1, l2] (.ref a :: st) h := je_aload_n (r := some a) D13_0 rfl rfl
theorem D13_1 : decode (jt_code 13) 1 = .ok (.getfield 57, 3) := by decide +kernel
theorem E13_1 {call : jv_F} {l0 l1 l2 : Option Value}  {st : List Value} {m : Nat} {I : Nat → Int32} {A : Nat → Nat → Int32} {L : Nat → Nat → Int64} {rest : Nat → Option jv_C} {z : Nat × Nat} : jv_ev call 13 1 [l0, l1, l2] (.ref m :: st) (jm_H m I A L rest z) = jv_ev call 13 4 [l0, l1, l2] (.ref (m + 15) :: st) (jm_H m I A L rest z) := je_get D13_1 rfl (by decide) jm_g18
theorem D13_4 : decode (jt_code 13) 4 = .ok (.iload_n 1, 1) := by decide +kernel
theorem E13_4 {call : jv_F} {l0 l2 : Option Value} {x : Int32} {st : List Value} {h : jv_H} : jv_ev call 13 4 [l0, some (.int x), l2] st h = jv_ev call 13 5 [l0, some (.int x), l2] (.int x :: st) h := je_iload_n D13_4 rfl rfl
theorem D13_5 : decode (jt_code 13) 5 = .ok (.iaload, 1) := by decide +kernel
theorem E13_5 {call : jv_F} {l0 l1 l2 : Option Value} {i : Nat} {st : List Value} {m : Nat} {I : Nat → Int32} {A : Nat → Nat → Int32} {L : Nat → Nat → Int64} {rest : Nat → Option jv_C} {z : Nat × Nat} (hi : i < 12) : jv_ev call 13 5 [l0, l1, l2] (.int (nI i) :: .ref (m + 15) :: st) (jm_H m I A L rest z) = jv_ev call 13 6 [l0, l1, l2] (.int (A 18 i) :: st) (jm_H m I A L rest z) := je_iald D13_5 rfl (jm_l18 hi)
theorem D13_6 : decode (jt_code 13) 6 = .ok (.ifCond .ne 5, 3) := by decide +kernel
theorem E13_6 {call : jv_F} {l0 l1 l2 : Option Value} {x : Int32} {st : List Value} {h : jv_H} : jv_ev call 13 6 [l0, l1, l2] (.int x :: st) h = if ¬ x = 0 then jv_ev call 13 11 [l0, l1, l2] st h else jv_ev call 13 9 [l0, l1, l2] st h := je_ifc D13_6 (by decide) rfl rfl
theorem D13_9 : decode (jt_code 13) 9 = .ok (.iconst 1, 1) := by decide +kernel
theorem E13_9 {call : jv_F} {l0 l1 l2 : Option Value}  {st : List Value} {h : jv_H} : jv_ev call 13 9 [l0, l1, l2] st h = jv_ev call 13 10 [l0, l1, l2] (.int (nI 1) :: st) h := je_iconst D13_9 rfl (by decide)
theorem D13_10 : decode (jt_code 13) 10 = .ok (.ireturn, 1) := by decide +kernel
theorem E13_10 {call : jv_F} {l0 l1 l2 : Option Value} {v : Int32} {h : jv_H} (hn : narrow .boolean (.int v) = .int v) (hf : fits .boolean (.int v) = true) : jv_ev call 13 10 [l0, l1, l2] [.int v] h = some (some (.int v), h) := je_iret (ty := .boolean) D13_10 rfl hn hf
theorem D13_11 : decode (jt_code 13) 11 = .ok (.aload_n 0, 1) := by decide +kernel
theorem E13_11 {call : jv_F} {l1 l2 : Option Value} {a : Nat} {st : List Value} {h : jv_H} : jv_ev call 13 11 [some (.ref a), l1, l2] st h = jv_ev call 13 12 [some (.ref a), l1, l2] (.ref a :: st) h := je_aload_n (r := some a) D13_11 rfl rfl
theorem D13_12 : decode (jt_code 13) 12 = .ok (.getfield 57, 3) := by decide +kernel
theorem E13_12 {call : jv_F} {l0 l1 l2 : Option Value}  {st : List Value} {m : Nat} {I : Nat → Int32} {A : Nat → Nat → Int32} {L : Nat → Nat → Int64} {rest : Nat → Option jv_C} {z : Nat × Nat} : jv_ev call 13 12 [l0, l1, l2] (.ref m :: st) (jm_H m I A L rest z) = jv_ev call 13 15 [l0, l1, l2] (.ref (m + 15) :: st) (jm_H m I A L rest z) := je_get D13_12 rfl (by decide) jm_g18
theorem D13_15 : decode (jt_code 13) 15 = .ok (.iload_n 1, 1) := by decide +kernel
theorem E13_15 {call : jv_F} {l0 l2 : Option Value} {x : Int32} {st : List Value} {h : jv_H} : jv_ev call 13 15 [l0, some (.int x), l2] st h = jv_ev call 13 16 [l0, some (.int x), l2] (.int x :: st) h := je_iload_n D13_15 rfl rfl
theorem D13_16 : decode (jt_code 13) 16 = .ok (.iaload, 1) := by decide +kernel
theorem E13_16 {call : jv_F} {l0 l1 l2 : Option Value} {i : Nat} {st : List Value} {m : Nat} {I : Nat → Int32} {A : Nat → Nat → Int32} {L : Nat → Nat → Int64} {rest : Nat → Option jv_C} {z : Nat × Nat} (hi : i < 12) : jv_ev call 13 16 [l0, l1, l2] (.int (nI i) :: .ref (m + 15) :: st) (jm_H m I A L rest z) = jv_ev call 13 17 [l0, l1, l2] (.int (A 18 i) :: st) (jm_H m I A L rest z) := je_iald D13_16 rfl (jm_l18 hi)
theorem D13_17 : decode (jt_code 13) 17 = .ok (.iconst 2, 1) := by decide +kernel
theorem E13_17 {call : jv_F} {l0 l1 l2 : Option Value}  {st : List Value} {h : jv_H} : jv_ev call 13 17 [l0, l1, l2] st h = jv_ev call 13 18 [l0, l1, l2] (.int (nI 2) :: st) h := je_iconst D13_17 rfl (by decide)
theorem D13_18 : decode (jt_code 13) 18 = .ok (.if_icmp .ne 16, 3) := by decide +kernel
theorem E13_18 {call : jv_F} {l0 l1 l2 : Option Value} {x y : Int32} {st : List Value} {h : jv_H} : jv_ev call 13 18 [l0, l1, l2] (.int y :: .int x :: st) h = if ¬ x = y then jv_ev call 13 34 [l0, l1, l2] st h else jv_ev call 13 21 [l0, l1, l2] st h := je_icmp D13_18 (by decide) rfl rfl
theorem D13_21 : decode (jt_code 13) 21 = .ok (.aload_n 0, 1) := by decide +kernel
theorem E13_21 {call : jv_F} {l1 l2 : Option Value} {a : Nat} {st : List Value} {h : jv_H} : jv_ev call 13 21 [some (.ref a), l1, l2] st h = jv_ev call 13 22 [some (.ref a), l1, l2] (.ref a :: st) h := je_aload_n (r := some a) D13_21 rfl rfl
theorem D13_22 : decode (jt_code 13) 22 = .ok (.invokevirtual 121, 3) := by decide +kernel
theorem E13_22 {call : jv_F} {l0 l1 l2 : Option Value}  {st : List Value} {m : Nat} {I : Nat → Int32} {A : Nat → Nat → Int32} {L : Nat → Nat → Int64} {rest : Nat → Option jv_C} {z : Nat × Nat} (hw : jv_wide st = true) (hc : (call 10 [.ref m] (jm_H m I A L rest z)).isSome = true) : jv_ev call 13 22 [l0, l1, l2] (.ref m :: st) (jm_H m I A L rest z) = jv_ev call 13 25 [l0, l1, l2] ((((call 10 [.ref m] (jm_H m I A L rest z)).getD (none, (jm_H m I A L rest z))).1).toList ++ st) ((call 10 [.ref m] (jm_H m I A L rest z)).getD (none, (jm_H m I A L rest z))).2 := by
  obtain ⟨⟨r, h'⟩, hv⟩ := Option.isSome_iff_exists.mp hc
  rw [hv]
  exact je_virt (y := 10) (as := []) D13_22 rfl (by decide) (by decide) rfl jm_cl hw hv
theorem D13_25 : decode (jt_code 13) 25 = .ok (.ifCond .lt 7, 3) := by decide +kernel
theorem E13_25 {call : jv_F} {l0 l1 l2 : Option Value} {x : Int32} {st : List Value} {h : jv_H} : jv_ev call 13 25 [l0, l1, l2] (.int x :: st) h = if x < 0 then jv_ev call 13 32 [l0, l1, l2] st h else jv_ev call 13 28 [l0, l1, l2] st h := je_ifc D13_25 (by decide) rfl rfl
theorem D13_28 : decode (jt_code 13) 28 = .ok (.iconst 1, 1) := by decide +kernel
theorem E13_28 {call : jv_F} {l0 l1 l2 : Option Value}  {st : List Value} {h : jv_H} : jv_ev call 13 28 [l0, l1, l2] st h = jv_ev call 13 29 [l0, l1, l2] (.int (nI 1) :: st) h := je_iconst D13_28 rfl (by decide)
theorem D13_29 : decode (jt_code 13) 29 = .ok (.goto 4, 3) := by decide +kernel
theorem E13_29 {call : jv_F} {l0 l1 l2 : Option Value}  {st : List Value} {h : jv_H} : jv_ev call 13 29 [l0, l1, l2] st h = jv_ev call 13 33 [l0, l1, l2] st h := je_goto D13_29 (by decide)
theorem D13_32 : decode (jt_code 13) 32 = .ok (.iconst 0, 1) := by decide +kernel
theorem E13_32 {call : jv_F} {l0 l1 l2 : Option Value}  {st : List Value} {h : jv_H} : jv_ev call 13 32 [l0, l1, l2] st h = jv_ev call 13 33 [l0, l1, l2] (.int (nI 0) :: st) h := je_iconst D13_32 rfl (by decide)
theorem D13_33 : decode (jt_code 13) 33 = .ok (.ireturn, 1) := by decide +kernel
theorem E13_33 {call : jv_F} {l0 l1 l2 : Option Value} {v : Int32} {h : jv_H} (hn : narrow .boolean (.int v) = .int v) (hf : fits .boolean (.int v) = true) : jv_ev call 13 33 [l0, l1, l2] [.int v] h = some (some (.int v), h) := je_iret (ty := .boolean) D13_33 rfl hn hf
theorem D13_34 : decode (jt_code 13) 34 = .ok (.aload_n 0, 1) := by decide +kernel
theorem E13_34 {call : jv_F} {l1 l2 : Option Value} {a : Nat} {st : List Value} {h : jv_H} : jv_ev call 13 34 [some (.ref a), l1, l2] st h = jv_ev call 13 35 [some (.ref a), l1, l2] (.ref a :: st) h := je_aload_n (r := some a) D13_34 rfl rfl
theorem D13_35 : decode (jt_code 13) 35 = .ok (.aload_n 0, 1) := by decide +kernel
theorem E13_35 {call : jv_F} {l1 l2 : Option Value} {a : Nat} {st : List Value} {h : jv_H} : jv_ev call 13 35 [some (.ref a), l1, l2] st h = jv_ev call 13 36 [some (.ref a), l1, l2] (.ref a :: st) h := je_aload_n (r := some a) D13_35 rfl rfl
theorem D13_36 : decode (jt_code 13) 36 = .ok (.getfield 60, 3) := by decide +kernel
theorem E13_36 {call : jv_F} {l0 l1 l2 : Option Value}  {st : List Value} {m : Nat} {I : Nat → Int32} {A : Nat → Nat → Int32} {L : Nat → Nat → Int64} {rest : Nat → Option jv_C} {z : Nat × Nat} : jv_ev call 13 36 [l0, l1, l2] (.ref m :: st) (jm_H m I A L rest z) = jv_ev call 13 39 [l0, l1, l2] (.ref (m + 16) :: st) (jm_H m I A L rest z) := je_get D13_36 rfl (by decide) jm_g19
theorem D13_39 : decode (jt_code 13) 39 = .ok (.iload_n 1, 1) := by decide +kernel
theorem E13_39 {call : jv_F} {l0 l2 : Option Value} {x : Int32} {st : List Value} {h : jv_H} : jv_ev call 13 39 [l0, some (.int x), l2] st h = jv_ev call 13 40 [l0, some (.int x), l2] (.int x :: st) h := je_iload_n D13_39 rfl rfl
theorem D13_40 : decode (jt_code 13) 40 = .ok (.iaload, 1) := by decide +kernel
theorem E13_40 {call : jv_F} {l0 l1 l2 : Option Value} {i : Nat} {st : List Value} {m : Nat} {I : Nat → Int32} {A : Nat → Nat → Int32} {L : Nat → Nat → Int64} {rest : Nat → Option jv_C} {z : Nat × Nat} (hi : i < 12) : jv_ev call 13 40 [l0, l1, l2] (.int (nI i) :: .ref (m + 16) :: st) (jm_H m I A L rest z) = jv_ev call 13 41 [l0, l1, l2] (.int (A 19 i) :: st) (jm_H m I A L rest z) := je_iald D13_40 rfl (jm_l19 hi)
theorem D13_41 : decode (jt_code 13) 41 = .ok (.invokevirtual 117, 3) := by decide +kernel
theorem E13_41 {call : jv_F} {l0 l1 l2 : Option Value} {v0 : Value}  {st : List Value} {m : Nat} {I : Nat → Int32} {A : Nat → Nat → Int32} {L : Nat → Nat → Int64} {rest : Nat → Option jv_C} {z : Nat × Nat} (hw : jv_wide st = true) (hc : (call 8 [.ref m, v0] (jm_H m I A L rest z)).isSome = true) : jv_ev call 13 41 [l0, l1, l2] (v0 :: .ref m :: st) (jm_H m I A L rest z) = jv_ev call 13 44 [l0, l1, l2] ((((call 8 [.ref m, v0] (jm_H m I A L rest z)).getD (none, (jm_H m I A L rest z))).1).toList ++ st) ((call 8 [.ref m, v0] (jm_H m I A L rest z)).getD (none, (jm_H m I A L rest z))).2 := by
  obtain ⟨⟨r, h'⟩, hv⟩ := Option.isSome_iff_exists.mp hc
  rw [hv]
  exact je_virt (y := 8) (as := [v0]) D13_41 rfl (by decide) (by decide) rfl jm_cl hw hv
theorem D13_44 : decode (jt_code 13) 44 = .ok (.istore_n 2, 1) := by decide +kernel
theorem E13_44 {call : jv_F} {l0 l1 l2 : Option Value} {x : Int32} {st : List Value} {h : jv_H} (hk : ¬ jv_is2 (some l1) = true) : jv_ev call 13 44 [l0, l1, l2] (.int x :: st) h = jv_ev call 13 45 [l0, l1, some (.int x)] st h := je_istore_n D13_44 rfl (Nat.le_of_ble_eq_true rfl) (by show jv_st1 _ 2 _ = _; simp only [jv_st1, jv_kill, List.getElem?_cons_succ, List.getElem?_cons_zero, hk, if_false]; rfl)
theorem D13_45 : decode (jt_code 13) 45 = .ok (.iload_n 2, 1) := by decide +kernel
theorem E13_45 {call : jv_F} {l0 l1 : Option Value} {x : Int32} {st : List Value} {h : jv_H} : jv_ev call 13 45 [l0, l1, some (.int x)] st h = jv_ev call 13 46 [l0, l1, some (.int x)] (.int x :: st) h := je_iload_n D13_45 rfl rfl
theorem D13_46 : decode (jt_code 13) 46 = .ok (.ifCond .lt 12, 3) := by decide +kernel
theorem E13_46 {call : jv_F} {l0 l1 l2 : Option Value} {x : Int32} {st : List Value} {h : jv_H} : jv_ev call 13 46 [l0, l1, l2] (.int x :: st) h = if x < 0 then jv_ev call 13 58 [l0, l1, l2] st h else jv_ev call 13 49 [l0, l1, l2] st h := je_ifc D13_46 (by decide) rfl rfl
theorem D13_49 : decode (jt_code 13) 49 = .ok (.aload_n 0, 1) := by decide +kernel
theorem E13_49 {call : jv_F} {l1 l2 : Option Value} {a : Nat} {st : List Value} {h : jv_H} : jv_ev call 13 49 [some (.ref a), l1, l2] st h = jv_ev call 13 50 [some (.ref a), l1, l2] (.ref a :: st) h := je_aload_n (r := some a) D13_49 rfl rfl
theorem D13_50 : decode (jt_code 13) 50 = .ok (.getfield 79, 3) := by decide +kernel
theorem E13_50 {call : jv_F} {l0 l1 l2 : Option Value}  {st : List Value} {m : Nat} {I : Nat → Int32} {A : Nat → Nat → Int32} {L : Nat → Nat → Int64} {rest : Nat → Option jv_C} {z : Nat × Nat} : jv_ev call 13 50 [l0, l1, l2] (.ref m :: st) (jm_H m I A L rest z) = jv_ev call 13 53 [l0, l1, l2] (.ref (m + 22) :: st) (jm_H m I A L rest z) := je_get D13_50 rfl (by decide) jm_g26
theorem D13_53 : decode (jt_code 13) 53 = .ok (.iload_n 2, 1) := by decide +kernel
theorem E13_53 {call : jv_F} {l0 l1 : Option Value} {x : Int32} {st : List Value} {h : jv_H} : jv_ev call 13 53 [l0, l1, some (.int x)] st h = jv_ev call 13 54 [l0, l1, some (.int x)] (.int x :: st) h := je_iload_n D13_53 rfl rfl
theorem D13_54 : decode (jt_code 13) 54 = .ok (.baload, 1) := by decide +kernel
theorem E13_54 {call : jv_F} {l0 l1 l2 : Option Value} {i : Nat} {st : List Value} {m : Nat} {I : Nat → Int32} {A : Nat → Nat → Int32} {L : Nat → Nat → Int64} {rest : Nat → Option jv_C} {z : Nat × Nat} (hi : i < 17) : jv_ev call 13 54 [l0, l1, l2] (.int (nI i) :: .ref (m + 22) :: st) (jm_H m I A L rest z) = jv_ev call 13 55 [l0, l1, l2] (.int (A 26 i) :: st) (jm_H m I A L rest z) := je_bald D13_54 rfl (jm_l26 hi)
theorem D13_55 : decode (jt_code 13) 55 = .ok (.ifCond .ne 7, 3) := by decide +kernel
theorem E13_55 {call : jv_F} {l0 l1 l2 : Option Value} {x : Int32} {st : List Value} {h : jv_H} : jv_ev call 13 55 [l0, l1, l2] (.int x :: st) h = if ¬ x = 0 then jv_ev call 13 62 [l0, l1, l2] st h else jv_ev call 13 58 [l0, l1, l2] st h := je_ifc D13_55 (by decide) rfl rfl
theorem D13_58 : decode (jt_code 13) 58 = .ok (.iconst 1, 1) := by decide +kernel
theorem E13_58 {call : jv_F} {l0 l1 l2 : Option Value}  {st : List Value} {h : jv_H} : jv_ev call 13 58 [l0, l1, l2] st h = jv_ev call 13 59 [l0, l1, l2] (.int (nI 1) :: st) h := je_iconst D13_58 rfl (by decide)
theorem D13_59 : decode (jt_code 13) 59 = .ok (.goto 4, 3) := by decide +kernel
theorem E13_59 {call : jv_F} {l0 l1 l2 : Option Value}  {st : List Value} {h : jv_H} : jv_ev call 13 59 [l0, l1, l2] st h = jv_ev call 13 63 [l0, l1, l2] st h := je_goto D13_59 (by decide)
theorem D13_62 : decode (jt_code 13) 62 = .ok (.iconst 0, 1) := by decide +kernel
theorem E13_62 {call : jv_F} {l0 l1 l2 : Option Value}  {st : List Value} {h : jv_H} : jv_ev call 13 62 [l0, l1, l2] st h = jv_ev call 13 63 [l0, l1, l2] (.int (nI 0) :: st) h := je_iconst D13_62 rfl (by decide)
theorem D13_63 : decode (jt_code 13) 63 = .ok (.ireturn, 1) := by decide +kernel
theorem E13_63 {call : jv_F} {l0 l1 l2 : Option Value} {v : Int32} {h : jv_H} (hn : narrow .boolean (.int v) = .int v) (hf : fits .boolean (.int v) = true) : jv_ev call 13 63 [l0, l1, l2] [.int v] h = some (some (.int v), h) := je_iret (ty := .boolean) D13_63 rfl hn hf
/-! method 14: DrumMachineModel.isAddress -/
theorem N14 {d : Nat} {a0 : Int32} {h : jv_H} : jv_run (d + 1) 14 [.int a0] h = jv_ev (jv_run d) 14 0 [some (.int a0)] [] h := jv_run_eq (Nat.le_of_ble_eq_true rfl) rfl
theorem D14_0 : decode (jt_code 14) 0 = .ok (.iload_n 0, 1) := by decide +kernel
theorem E14_0 {call : jv_F} {x : Int32} {st : List Value} {h : jv_H} : jv_ev call 14 0 [some (.int x)] st h = jv_ev call 14 1 [some (.int x)] (.int x :: st) h := je_iload_n D14_0 rfl rfl
theorem D14_1 : decode (jt_code 14) 1 = .ok (.ifCond .lt 14, 3) := by decide +kernel
theorem E14_1 {call : jv_F} {l0 : Option Value} {x : Int32} {st : List Value} {h : jv_H} : jv_ev call 14 1 [l0] (.int x :: st) h = if x < 0 then jv_ev call 14 15 [l0] st h else jv_ev call 14 4 [l0] st h := je_ifc D14_1 (by decide) rfl rfl
theorem D14_4 : decode (jt_code 14) 4 = .ok (.iload_n 0, 1) := by decide +kernel
theorem E14_4 {call : jv_F} {x : Int32} {st : List Value} {h : jv_H} : jv_ev call 14 4 [some (.int x)] st h = jv_ev call 14 5 [some (.int x)] (.int x :: st) h := je_iload_n D14_4 rfl rfl
theorem D14_5 : decode (jt_code 14) 5 = .ok (.sipush 1024, 3) := by decide +kernel
theorem E14_5 {call : jv_F} {l0 : Option Value}  {st : List Value} {h : jv_H} : jv_ev call 14 5 [l0] st h = jv_ev call 14 8 [l0] (.int (nI 1024) :: st) h := je_sipush D14_5 rfl (by decide)
theorem D14_8 : decode (jt_code 14) 8 = .ok (.if_icmp .ge 7, 3) := by decide +kernel
theorem E14_8 {call : jv_F} {l0 : Option Value} {x y : Int32} {st : List Value} {h : jv_H} : jv_ev call 14 8 [l0] (.int y :: .int x :: st) h = if y ≤ x then jv_ev call 14 15 [l0] st h else jv_ev call 14 11 [l0] st h := je_icmp D14_8 (by decide) rfl rfl
theorem D14_11 : decode (jt_code 14) 11 = .ok (.iconst 1, 1) := by decide +kernel
theorem E14_11 {call : jv_F} {l0 : Option Value}  {st : List Value} {h : jv_H} : jv_ev call 14 11 [l0] st h = jv_ev call 14 12 [l0] (.int (nI 1) :: st) h := je_iconst D14_11 rfl (by decide)
theorem D14_12 : decode (jt_code 14) 12 = .ok (.goto 4, 3) := by decide +kernel
theorem E14_12 {call : jv_F} {l0 : Option Value}  {st : List Value} {h : jv_H} : jv_ev call 14 12 [l0] st h = jv_ev call 14 16 [l0] st h := je_goto D14_12 (by decide)
theorem D14_15 : decode (jt_code 14) 15 = .ok (.iconst 0, 1) := by decide +kernel
theorem E14_15 {call : jv_F} {l0 : Option Value}  {st : List Value} {h : jv_H} : jv_ev call 14 15 [l0] st h = jv_ev call 14 16 [l0] (.int (nI 0) :: st) h := je_iconst D14_15 rfl (by decide)
theorem D14_16 : decode (jt_code 14) 16 = .ok (.ireturn, 1) := by decide +kernel
theorem E14_16 {call : jv_F} {l0 : Option Value} {v : Int32} {h : jv_H} (hn : narrow .boolean (.int v) = .int v) (hf : fits .boolean (.int v) = true) : jv_ev call 14 16 [l0] [.int v] h = some (some (.int v), h) := je_iret (ty := .boolean) D14_16 rfl hn hf
/-! method 15: DrumMachineModel.blockOf -/
theorem N15 {d : Nat} {a0 : Int32} {a1 : Int32} {h : jv_H} : jv_run (d + 1) 15 [.int a0, .int a1] h = jv_ev (jv_run d) 15 0 [some (.int a0), some (.int a1)] [] h := jv_run_eq (Nat.le_of_ble_eq_true rfl) rfl
theorem D15_0 : decode (jt_code 15) 0 = .ok (.bipush 64, 2) := by decide +kernel
theorem E15_0 {call : jv_F} {l0 l1 : Option Value}  {st : List Value} {h : jv_H} : jv_ev call 15 0 [l0, l1] st h = jv_ev call 15 2 [l0, l1] (.int (nI 64) :: st) h := je_bipush D15_0 rfl (by decide)
theorem D15_2 : decode (jt_code 15) 2 = .ok (.iload_n 0, 1) := by decide +kernel
theorem E15_2 {call : jv_F} {l1 : Option Value} {x : Int32} {st : List Value} {h : jv_H} : jv_ev call 15 2 [some (.int x), l1] st h = jv_ev call 15 3 [some (.int x), l1] (.int x :: st) h := je_iload_n D15_2 rfl rfl
theorem D15_3 : decode (jt_code 15) 3 = .ok (.imul, 1) := by decide +kernel
theorem E15_3 {call : jv_F} {l0 l1 : Option Value} {x y : Int32} {st : List Value} {h : jv_H} : jv_ev call 15 3 [l0, l1] (.int y :: .int x :: st) h = jv_ev call 15 4 [l0, l1] (.int (x * y) :: st) h := je_b2 (f := fun x y => x * y) D15_3 rfl (fun _ => rfl)
theorem D15_4 : decode (jt_code 15) 4 = .ok (.iload_n 1, 1) := by decide +kernel
theorem E15_4 {call : jv_F} {l0 : Option Value} {x : Int32} {st : List Value} {h : jv_H} : jv_ev call 15 4 [l0, some (.int x)] st h = jv_ev call 15 5 [l0, some (.int x)] (.int x :: st) h := je_iload_n D15_4 rfl rfl
theorem D15_5 : decode (jt_code 15) 5 = .ok (.bipush 16, 2) := by decide +kernel
theorem E15_5 {call : jv_F} {l0 l1 : Option Value}  {st : List Value} {h : jv_H} : jv_ev call 15 5 [l0, l1] st h = jv_ev call 15 7 [l0, l1] (.int (nI 16) :: st) h := je_bipush D15_5 rfl (by decide)
theorem D15_7 : decode (jt_code 15) 7 = .ok (.idiv, 1) := by decide +kernel
theorem E15_7 {call : jv_F} {l0 l1 : Option Value} {x y : Int32} {st : List Value} {h : jv_H} (hy : ¬ y = 0) : jv_ev call 15 7 [l0, l1] (.int y :: .int x :: st) h = jv_ev call 15 8 [l0, l1] (.int (x / y) :: st) h := je_idiv D15_7 rfl hy
theorem D15_8 : decode (jt_code 15) 8 = .ok (.iadd, 1) := by decide +kernel
theorem E15_8 {call : jv_F} {l0 l1 : Option Value} {x y : Int32} {st : List Value} {h : jv_H} : jv_ev call 15 8 [l0, l1] (.int y :: .int x :: st) h = jv_ev call 15 9 [l0, l1] (.int (x + y) :: st) h := je_b2 (f := fun x y => x + y) D15_8 rfl (fun _ => rfl)
theorem D15_9 : decode (jt_code 15) 9 = .ok (.ireturn, 1) := by decide +kernel
theorem E15_9 {call : jv_F} {l0 l1 : Option Value} {v : Int32} {h : jv_H} : jv_ev call 15 9 [l0, l1] [.int v] h = some (some (.int v), h) := je_iret (ty := .int) D15_9 rfl rfl rfl
/-! method 16: DrumMachineModel.isWanted -/
theorem N16 {d : Nat} {b : Nat} {a0 : Int32} {h : jv_H} : jv_run (d + 1) 16 [.ref b, .int a0] h = jv_ev (jv_run d) 16 0 [some (.ref b), some (.int a0), none] [] h := jv_run_eq (Nat.le_of_ble_eq_true rfl) rfl
theorem D16_0 : decode (jt_code 16) 0 = .ok (.iload_n 1, 1) := by decide +kernel
theorem E16_0 {call : jv_F} {l0 l2 : Option Value} {x : Int32} {st : List Value} {h : jv_H} : jv_ev call 16 0 [l0, some (.int x), l2] st h = jv_ev call 16 1 [l0, some (.int x), l2] (.int x :: st) h := je_iload_n D16_0 rfl rfl
theorem D16_1 : decode (jt_code 16) 1 = .ok (.bipush 64, 2) := by decide +kernel
theorem E16_1 {call : jv_F} {l0 l1 l2 : Option Value}  {st : List Value} {h : jv_H} : jv_ev call 16 1 [l0, l1, l2] st h = jv_ev call 16 3 [l0, l1, l2] (.int (nI 64) :: st) h := je_bipush D16_1 rfl (by decide)
theorem D16_3 : decode (jt_code 16) 3 = .ok (.idiv, 1) := by decide +kernel
theorem E16_3 {call : jv_F} {l0 l1 l2 : Option Value} {x y : Int32} {st : List Value} {h : jv_H} (hy : ¬ y = 0) : jv_ev call 16 3 [l0, l1, l2] (.int y :: .int x :: st) h = jv_ev call 16 4 [l0, l1, l2] (.int (x / y) :: st) h := je_idiv D16_3 rfl hy
theorem D16_4 : decode (jt_code 16) 4 = .ok (.istore_n 2, 1) := by decide +kernel
theorem E16_4 {call : jv_F} {l0 l1 l2 : Option Value} {x : Int32} {st : List Value} {h : jv_H} (hk : ¬ jv_is2 (some l1) = true) : jv_ev call 16 4 [l0, l1, l2] (.int x :: st) h = jv_ev call 16 5 [l0, l1, some (.int x)] st h := je_istore_n D16_4 rfl (Nat.le_of_ble_eq_true rfl) (by show jv_st1 _ 2 _ = _; simp only [jv_st1, jv_kill, List.getElem?_cons_succ, List.getElem?_cons_zero, hk, if_false]; rfl)
theorem D16_5 : decode (jt_code 16) 5 = .ok (.aload_n 0, 1) := by decide +kernel
theorem E16_5 {call : jv_F} {l1 l2 : Option Value} {a : Nat} {st : List Value} {h : jv_H} : jv_ev call 16 5 [some (.ref a), l1, l2] st h = jv_ev call 16 6 [some (.ref a), l1, l2] (.ref a :: st) h := je_aload_n (r := some a) D16_5 rfl rfl
theorem D16_6 : decode (jt_code 16) 6 = .ok (.iload_n 2, 1) := by decide +kernel
theorem E16_6 {call : jv_F} {l0 l1 : Option Value} {x : Int32} {st : List Value} {h : jv_H} : jv_ev call 16 6 [l0, l1, some (.int x)] st h = jv_ev call 16 7 [l0, l1, some (.int x)] (.int x :: st) h := je_iload_n D16_6 rfl rfl
theorem D16_7 : decode (jt_code 16) 7 = .ok (.invokevirtual 125, 3) := by decide +kernel
theorem E16_7 {call : jv_F} {l0 l1 l2 : Option Value} {v0 : Value}  {st : List Value} {m : Nat} {I : Nat → Int32} {A : Nat → Nat → Int32} {L : Nat → Nat → Int64} {rest : Nat → Option jv_C} {z : Nat × Nat} (hw : jv_wide st = true) (hc : (call 12 [.ref m, v0] (jm_H m I A L rest z)).isSome = true) : jv_ev call 16 7 [l0, l1, l2] (v0 :: .ref m :: st) (jm_H m I A L rest z) = jv_ev call 16 10 [l0, l1, l2] ((((call 12 [.ref m, v0] (jm_H m I A L rest z)).getD (none, (jm_H m I A L rest z))).1).toList ++ st) ((call 12 [.ref m, v0] (jm_H m I A L rest z)).getD (none, (jm_H m I A L rest z))).2 := by
  obtain ⟨⟨r, h'⟩, hv⟩ := Option.isSome_iff_exists.mp hc
  rw [hv]
  exact je_virt (y := 12) (as := [v0]) D16_7 rfl (by decide) (by decide) rfl jm_cl hw hv
theorem D16_10 : decode (jt_code 16) 10 = .ok (.ifCond .ne 5, 3) := by decide +kernel
theorem E16_10 {call : jv_F} {l0 l1 l2 : Option Value} {x : Int32} {st : List Value} {h : jv_H} : jv_ev call 16 10 [l0, l1, l2] (.int x :: st) h = if ¬ x = 0 then jv_ev call 16 15 [l0, l1, l2] st h else jv_ev call 16 13 [l0, l1, l2] st h := je_ifc D16_10 (by decide) rfl rfl
theorem D16_13 : decode (jt_code 16) 13 = .ok (.iconst 0, 1) := by decide +kernel
theorem E16_13 {call : jv_F} {l0 l1 l2 : Option Value}  {st : List Value} {h : jv_H} : jv_ev call 16 13 [l0, l1, l2] st h = jv_ev call 16 14 [l0, l1, l2] (.int (nI 0) :: st) h := je_iconst D16_13 rfl (by decide)
theorem D16_14 : decode (jt_code 16) 14 = .ok (.ireturn, 1) := by decide +kernel
theorem E16_14 {call : jv_F} {l0 l1 l2 : Option Value} {v : Int32} {h : jv_H} (hn : narrow .boolean (.int v) = .int v) (hf : fits .boolean (.int v) = true) : jv_ev call 16 14 [l0, l1, l2] [.int v] h = some (some (.int v), h) := je_iret (ty := .boolean) D16_14 rfl hn hf
theorem D16_15 : decode (jt_code 16) 15 = .ok (.aload_n 0, 1) := by decide +kernel
theorem E16_15 {call : jv_F} {l1 l2 : Option Value} {a : Nat} {st : List Value} {h : jv_H} : jv_ev call 16 15 [some (.ref a), l1, l2] st h = jv_ev call 16 16 [some (.ref a), l1, l2] (.ref a :: st) h := je_aload_n (r := some a) D16_15 rfl rfl
theorem D16_16 : decode (jt_code 16) 16 = .ok (.getfield 30, 3) := by decide +kernel
theorem E16_16 {call : jv_F} {l0 l1 l2 : Option Value}  {st : List Value} {m : Nat} {I : Nat → Int32} {A : Nat → Nat → Int32} {L : Nat → Nat → Int64} {rest : Nat → Option jv_C} {z : Nat × Nat} : jv_ev call 16 16 [l0, l1, l2] (.ref m :: st) (jm_H m I A L rest z) = jv_ev call 16 19 [l0, l1, l2] (.ref (m + 6) :: st) (jm_H m I A L rest z) := je_get D16_16 rfl (by decide) jm_g9
theorem D16_19 : decode (jt_code 16) 19 = .ok (.iload_n 2, 1) := by decide +kernel
theorem E16_19 {call : jv_F} {l0 l1 : Option Value} {x : Int32} {st : List Value} {h : jv_H} : jv_ev call 16 19 [l0, l1, some (.int x)] st h = jv_ev call 16 20 [l0, l1, some (.int x)] (.int x :: st) h := je_iload_n D16_19 rfl rfl
theorem D16_20 : decode (jt_code 16) 20 = .ok (.iaload, 1) := by decide +kernel
theorem E16_20 {call : jv_F} {l0 l1 l2 : Option Value} {i : Nat} {st : List Value} {m : Nat} {I : Nat → Int32} {A : Nat → Nat → Int32} {L : Nat → Nat → Int64} {rest : Nat → Option jv_C} {z : Nat × Nat} (hi : i < 12) : jv_ev call 16 20 [l0, l1, l2] (.int (nI i) :: .ref (m + 6) :: st) (jm_H m I A L rest z) = jv_ev call 16 21 [l0, l1, l2] (.int (A 9 i) :: st) (jm_H m I A L rest z) := je_iald D16_20 rfl (jm_l9 hi)
theorem D16_21 : decode (jt_code 16) 21 = .ok (.invokestatic 129, 3) := by decide +kernel
theorem E16_21 {call : jv_F} {l0 l1 l2 : Option Value} {v0 : Value}  {st : List Value} {h : jv_H} (hw : jv_wide st = true) (hc : (call 14 [v0] h).isSome = true) : jv_ev call 16 21 [l0, l1, l2] (v0 :: st) h = jv_ev call 16 24 [l0, l1, l2] ((((call 14 [v0] h).getD (none, h)).1).toList ++ st) ((call 14 [v0] h).getD (none, h)).2 := by
  obtain ⟨⟨r, h'⟩, hv⟩ := Option.isSome_iff_exists.mp hc
  rw [hv]
  exact je_stat (y := 14) (as := [v0]) D16_21 rfl (by decide) (by decide) rfl hw hv
theorem D16_24 : decode (jt_code 16) 24 = .ok (.ifCond .eq 17, 3) := by decide +kernel
theorem E16_24 {call : jv_F} {l0 l1 l2 : Option Value} {x : Int32} {st : List Value} {h : jv_H} : jv_ev call 16 24 [l0, l1, l2] (.int x :: st) h = if x = 0 then jv_ev call 16 41 [l0, l1, l2] st h else jv_ev call 16 27 [l0, l1, l2] st h := je_ifc D16_24 (by decide) rfl rfl
theorem D16_27 : decode (jt_code 16) 27 = .ok (.iload_n 2, 1) := by decide +kernel
theorem E16_27 {call : jv_F} {l0 l1 : Option Value} {x : Int32} {st : List Value} {h : jv_H} : jv_ev call 16 27 [l0, l1, some (.int x)] st h = jv_ev call 16 28 [l0, l1, some (.int x)] (.int x :: st) h := je_iload_n D16_27 rfl rfl
theorem D16_28 : decode (jt_code 16) 28 = .ok (.aload_n 0, 1) := by decide +kernel
theorem E16_28 {call : jv_F} {l1 l2 : Option Value} {a : Nat} {st : List Value} {h : jv_H} : jv_ev call 16 28 [some (.ref a), l1, l2] st h = jv_ev call 16 29 [some (.ref a), l1, l2] (.ref a :: st) h := je_aload_n (r := some a) D16_28 rfl rfl
theorem D16_29 : decode (jt_code 16) 29 = .ok (.getfield 30, 3) := by decide +kernel
theorem E16_29 {call : jv_F} {l0 l1 l2 : Option Value}  {st : List Value} {m : Nat} {I : Nat → Int32} {A : Nat → Nat → Int32} {L : Nat → Nat → Int64} {rest : Nat → Option jv_C} {z : Nat × Nat} : jv_ev call 16 29 [l0, l1, l2] (.ref m :: st) (jm_H m I A L rest z) = jv_ev call 16 32 [l0, l1, l2] (.ref (m + 6) :: st) (jm_H m I A L rest z) := je_get D16_29 rfl (by decide) jm_g9
theorem D16_32 : decode (jt_code 16) 32 = .ok (.iload_n 2, 1) := by decide +kernel
theorem E16_32 {call : jv_F} {l0 l1 : Option Value} {x : Int32} {st : List Value} {h : jv_H} : jv_ev call 16 32 [l0, l1, some (.int x)] st h = jv_ev call 16 33 [l0, l1, some (.int x)] (.int x :: st) h := je_iload_n D16_32 rfl rfl
theorem D16_33 : decode (jt_code 16) 33 = .ok (.iaload, 1) := by decide +kernel
theorem E16_33 {call : jv_F} {l0 l1 l2 : Option Value} {i : Nat} {st : List Value} {m : Nat} {I : Nat → Int32} {A : Nat → Nat → Int32} {L : Nat → Nat → Int64} {rest : Nat → Option jv_C} {z : Nat × Nat} (hi : i < 12) : jv_ev call 16 33 [l0, l1, l2] (.int (nI i) :: .ref (m + 6) :: st) (jm_H m I A L rest z) = jv_ev call 16 34 [l0, l1, l2] (.int (A 9 i) :: st) (jm_H m I A L rest z) := je_iald D16_33 rfl (jm_l9 hi)
theorem D16_34 : decode (jt_code 16) 34 = .ok (.invokestatic 132, 3) := by decide +kernel
theorem E16_34 {call : jv_F} {l0 l1 l2 : Option Value} {v0 v1 : Value}  {st : List Value} {h : jv_H} (hw : jv_wide st = true) (hc : (call 15 [v0, v1] h).isSome = true) : jv_ev call 16 34 [l0, l1, l2] (v1 :: v0 :: st) h = jv_ev call 16 37 [l0, l1, l2] ((((call 15 [v0, v1] h).getD (none, h)).1).toList ++ st) ((call 15 [v0, v1] h).getD (none, h)).2 := by
  obtain ⟨⟨r, h'⟩, hv⟩ := Option.isSome_iff_exists.mp hc
  rw [hv]
  exact je_stat (y := 15) (as := [v0, v1]) D16_34 rfl (by decide) (by decide) rfl hw hv
theorem D16_37 : decode (jt_code 16) 37 = .ok (.iload_n 1, 1) := by decide +kernel
theorem E16_37 {call : jv_F} {l0 l2 : Option Value} {x : Int32} {st : List Value} {h : jv_H} : jv_ev call 16 37 [l0, some (.int x), l2] st h = jv_ev call 16 38 [l0, some (.int x), l2] (.int x :: st) h := je_iload_n D16_37 rfl rfl
theorem D16_38 : decode (jt_code 16) 38 = .ok (.if_icmp .eq 22, 3) := by decide +kernel
theorem E16_38 {call : jv_F} {l0 l1 l2 : Option Value} {x y : Int32} {st : List Value} {h : jv_H} : jv_ev call 16 38 [l0, l1, l2] (.int y :: .int x :: st) h = if x = y then jv_ev call 16 60 [l0, l1, l2] st h else jv_ev call 16 41 [l0, l1, l2] st h := je_icmp D16_38 (by decide) rfl rfl
theorem D16_41 : decode (jt_code 16) 41 = .ok (.aload_n 0, 1) := by decide +kernel
theorem E16_41 {call : jv_F} {l1 l2 : Option Value} {a : Nat} {st : List Value} {h : jv_H} : jv_ev call 16 41 [some (.ref a), l1, l2] st h = jv_ev call 16 42 [some (.ref a), l1, l2] (.ref a :: st) h := je_aload_n (r := some a) D16_41 rfl rfl
theorem D16_42 : decode (jt_code 16) 42 = .ok (.getfield 57, 3) := by decide +kernel
theorem E16_42 {call : jv_F} {l0 l1 l2 : Option Value}  {st : List Value} {m : Nat} {I : Nat → Int32} {A : Nat → Nat → Int32} {L : Nat → Nat → Int64} {rest : Nat → Option jv_C} {z : Nat × Nat} : jv_ev call 16 42 [l0, l1, l2] (.ref m :: st) (jm_H m I A L rest z) = jv_ev call 16 45 [l0, l1, l2] (.ref (m + 15) :: st) (jm_H m I A L rest z) := je_get D16_42 rfl (by decide) jm_g18
theorem D16_45 : decode (jt_code 16) 45 = .ok (.iload_n 2, 1) := by decide +kernel
theorem E16_45 {call : jv_F} {l0 l1 : Option Value} {x : Int32} {st : List Value} {h : jv_H} : jv_ev call 16 45 [l0, l1, some (.int x)] st h = jv_ev call 16 46 [l0, l1, some (.int x)] (.int x :: st) h := je_iload_n D16_45 rfl rfl
theorem D16_46 : decode (jt_code 16) 46 = .ok (.iaload, 1) := by decide +kernel
theorem E16_46 {call : jv_F} {l0 l1 l2 : Option Value} {i : Nat} {st : List Value} {m : Nat} {I : Nat → Int32} {A : Nat → Nat → Int32} {L : Nat → Nat → Int64} {rest : Nat → Option jv_C} {z : Nat × Nat} (hi : i < 12) : jv_ev call 16 46 [l0, l1, l2] (.int (nI i) :: .ref (m + 15) :: st) (jm_H m I A L rest z) = jv_ev call 16 47 [l0, l1, l2] (.int (A 18 i) :: st) (jm_H m I A L rest z) := je_iald D16_46 rfl (jm_l18 hi)
theorem D16_47 : decode (jt_code 16) 47 = .ok (.ifCond .eq 17, 3) := by decide +kernel
theorem E16_47 {call : jv_F} {l0 l1 l2 : Option Value} {x : Int32} {st : List Value} {h : jv_H} : jv_ev call 16 47 [l0, l1, l2] (.int x :: st) h = if x = 0 then jv_ev call 16 64 [l0, l1, l2] st h else jv_ev call 16 50 [l0, l1, l2] st h := je_ifc D16_47 (by decide) rfl rfl
theorem D16_50 : decode (jt_code 16) 50 = .ok (.aload_n 0, 1) := by decide +kernel
theorem E16_50 {call : jv_F} {l1 l2 : Option Value} {a : Nat} {st : List Value} {h : jv_H} : jv_ev call 16 50 [some (.ref a), l1, l2] st h = jv_ev call 16 51 [some (.ref a), l1, l2] (.ref a :: st) h := je_aload_n (r := some a) D16_50 rfl rfl
theorem D16_51 : decode (jt_code 16) 51 = .ok (.getfield 60, 3) := by decide +kernel
theorem E16_51 {call : jv_F} {l0 l1 l2 : Option Value}  {st : List Value} {m : Nat} {I : Nat → Int32} {A : Nat → Nat → Int32} {L : Nat → Nat → Int64} {rest : Nat → Option jv_C} {z : Nat × Nat} : jv_ev call 16 51 [l0, l1, l2] (.ref m :: st) (jm_H m I A L rest z) = jv_ev call 16 54 [l0, l1, l2] (.ref (m + 16) :: st) (jm_H m I A L rest z) := je_get D16_51 rfl (by decide) jm_g19
theorem D16_54 : decode (jt_code 16) 54 = .ok (.iload_n 2, 1) := by decide +kernel
theorem E16_54 {call : jv_F} {l0 l1 : Option Value} {x : Int32} {st : List Value} {h : jv_H} : jv_ev call 16 54 [l0, l1, some (.int x)] st h = jv_ev call 16 55 [l0, l1, some (.int x)] (.int x :: st) h := je_iload_n D16_54 rfl rfl
theorem D16_55 : decode (jt_code 16) 55 = .ok (.iaload, 1) := by decide +kernel
theorem E16_55 {call : jv_F} {l0 l1 l2 : Option Value} {i : Nat} {st : List Value} {m : Nat} {I : Nat → Int32} {A : Nat → Nat → Int32} {L : Nat → Nat → Int64} {rest : Nat → Option jv_C} {z : Nat × Nat} (hi : i < 12) : jv_ev call 16 55 [l0, l1, l2] (.int (nI i) :: .ref (m + 16) :: st) (jm_H m I A L rest z) = jv_ev call 16 56 [l0, l1, l2] (.int (A 19 i) :: st) (jm_H m I A L rest z) := je_iald D16_55 rfl (jm_l19 hi)
theorem D16_56 : decode (jt_code 16) 56 = .ok (.iload_n 1, 1) := by decide +kernel
theorem E16_56 {call : jv_F} {l0 l2 : Option Value} {x : Int32} {st : List Value} {h : jv_H} : jv_ev call 16 56 [l0, some (.int x), l2] st h = jv_ev call 16 57 [l0, some (.int x), l2] (.int x :: st) h := je_iload_n D16_56 rfl rfl
theorem D16_57 : decode (jt_code 16) 57 = .ok (.if_icmp .ne 7, 3) := by decide +kernel
theorem E16_57 {call : jv_F} {l0 l1 l2 : Option Value} {x y : Int32} {st : List Value} {h : jv_H} : jv_ev call 16 57 [l0, l1, l2] (.int y :: .int x :: st) h = if ¬ x = y then jv_ev call 16 64 [l0, l1, l2] st h else jv_ev call 16 60 [l0, l1, l2] st h := je_icmp D16_57 (by decide) rfl rfl
theorem D16_60 : decode (jt_code 16) 60 = .ok (.iconst 1, 1) := by decide +kernel
theorem E16_60 {call : jv_F} {l0 l1 l2 : Option Value}  {st : List Value} {h : jv_H} : jv_ev call 16 60 [l0, l1, l2] st h = jv_ev call 16 61 [l0, l1, l2] (.int (nI 1) :: st) h := je_iconst D16_60 rfl (by decide)
theorem D16_61 : decode (jt_code 16) 61 = .ok (.goto 4, 3) := by decide +kernel
theorem E16_61 {call : jv_F} {l0 l1 l2 : Option Value}  {st : List Value} {h : jv_H} : jv_ev call 16 61 [l0, l1, l2] st h = jv_ev call 16 65 [l0, l1, l2] st h := je_goto D16_61 (by decide)
theorem D16_64 : decode (jt_code 16) 64 = .ok (.iconst 0, 1) := by decide +kernel
theorem E16_64 {call : jv_F} {l0 l1 l2 : Option Value}  {st : List Value} {h : jv_H} : jv_ev call 16 64 [l0, l1, l2] st h = jv_ev call 16 65 [l0, l1, l2] (.int (nI 0) :: st) h := je_iconst D16_64 rfl (by decide)
theorem D16_65 : decode (jt_code 16) 65 = .ok (.ireturn, 1) := by decide +kernel
theorem E16_65 {call : jv_F} {l0 l1 l2 : Option Value} {v : Int32} {h : jv_H} (hn : narrow .boolean (.int v) = .int v) (hf : fits .boolean (.int v) = true) : jv_ev call 16 65 [l0, l1, l2] [.int v] h = some (some (.int v), h) := je_iret (ty := .boolean) D16_65 rfl hn hf
/-! method 17: DrumMachineModel.run -/
theorem N17 {d : Nat} {b : Nat} {a0 : Int32} {h : jv_H} : jv_run (d + 1) 17 [.ref b, .int a0] h = jv_ev (jv_run d) 17 0 [some (.ref b), some (.int a0), none] [] h := jv_run_eq (Nat.le_of_ble_eq_true rfl) rfl
theorem D17_0 : decode (jt_code 17) 0 = .ok (.iload_n 1, 1) := by decide +kernel
theorem E17_0 {call : jv_F} {l0 l2 : Option Value} {x : Int32} {st : List Value} {h : jv_H} : jv_ev call 17 0 [l0, some (.int x), l2] st h = jv_ev call 17 1 [l0, some (.int x), l2] (.int x :: st) h := je_iload_n D17_0 rfl rfl
theorem D17_1 : decode (jt_code 17) 1 = .ok (.ifCond .lt 10, 3) := by decide +kernel
theorem E17_1 {call : jv_F} {l0 l1 l2 : Option Value} {x : Int32} {st : List Value} {h : jv_H} : jv_ev call 17 1 [l0, l1, l2] (.int x :: st) h = if x < 0 then jv_ev call 17 11 [l0, l1, l2] st h else jv_ev call 17 4 [l0, l1, l2] st h := je_ifc D17_1 (by decide) rfl rfl
theorem D17_4 : decode (jt_code 17) 4 = .ok (.iload_n 1, 1) := by decide +kernel
theorem E17_4 {call : jv_F} {l0 l2 : Option Value} {x : Int32} {st : List Value} {h : jv_H} : jv_ev call 17 4 [l0, some (.int x), l2] st h = jv_ev call 17 5 [l0, some (.int x), l2] (.int x :: st) h := je_iload_n D17_4 rfl rfl
theorem D17_5 : decode (jt_code 17) 5 = .ok (.sipush 20000, 3) := by decide +kernel
theorem E17_5 {call : jv_F} {l0 l1 l2 : Option Value}  {st : List Value} {h : jv_H} : jv_ev call 17 5 [l0, l1, l2] st h = jv_ev call 17 8 [l0, l1, l2] (.int (nI 20000) :: st) h := je_sipush D17_5 rfl (by decide)
theorem D17_8 : decode (jt_code 17) 8 = .ok (.if_icmp .le 5, 3) := by decide +kernel
theorem E17_8 {call : jv_F} {l0 l1 l2 : Option Value} {x y : Int32} {st : List Value} {h : jv_H} : jv_ev call 17 8 [l0, l1, l2] (.int y :: .int x :: st) h = if x ≤ y then jv_ev call 17 13 [l0, l1, l2] st h else jv_ev call 17 11 [l0, l1, l2] st h := je_icmp D17_8 (by decide) rfl rfl
theorem D17_11 : decode (jt_code 17) 11 = .ok (.iconst (-1), 1) := by decide +kernel
theorem E17_11 {call : jv_F} {l0 l1 l2 : Option Value}  {st : List Value} {h : jv_H} : jv_ev call 17 11 [l0, l1, l2] st h = jv_ev call 17 12 [l0, l1, l2] (.int (-1) :: st) h := je_iconst D17_11 rfl (by decide)
theorem D17_12 : decode (jt_code 17) 12 = .ok (.ireturn, 1) := by decide +kernel
theorem E17_12 {call : jv_F} {l0 l1 l2 : Option Value} {v : Int32} {h : jv_H} : jv_ev call 17 12 [l0, l1, l2] [.int v] h = some (some (.int v), h) := je_iret (ty := .int) D17_12 rfl rfl rfl
theorem D17_13 : decode (jt_code 17) 13 = .ok (.iconst 0, 1) := by decide +kernel
theorem E17_13 {call : jv_F} {l0 l1 l2 : Option Value}  {st : List Value} {h : jv_H} : jv_ev call 17 13 [l0, l1, l2] st h = jv_ev call 17 14 [l0, l1, l2] (.int (nI 0) :: st) h := je_iconst D17_13 rfl (by decide)
theorem D17_14 : decode (jt_code 17) 14 = .ok (.istore_n 2, 1) := by decide +kernel
theorem E17_14 {call : jv_F} {l0 l1 l2 : Option Value} {x : Int32} {st : List Value} {h : jv_H} (hk : ¬ jv_is2 (some l1) = true) : jv_ev call 17 14 [l0, l1, l2] (.int x :: st) h = jv_ev call 17 15 [l0, l1, some (.int x)] st h := je_istore_n D17_14 rfl (Nat.le_of_ble_eq_true rfl) (by show jv_st1 _ 2 _ = _; simp only [jv_st1, jv_kill, List.getElem?_cons_succ, List.getElem?_cons_zero, hk, if_false]; rfl)
theorem D17_15 : decode (jt_code 17) 15 = .ok (.iload_n 2, 1) := by decide +kernel
theorem E17_15 {call : jv_F} {l0 l1 : Option Value} {x : Int32} {st : List Value} {h : jv_H} : jv_ev call 17 15 [l0, l1, some (.int x)] st h = jv_ev call 17 16 [l0, l1, some (.int x)] (.int x :: st) h := je_iload_n D17_15 rfl rfl
theorem D17_16 : decode (jt_code 17) 16 = .ok (.iload_n 1, 1) := by decide +kernel
theorem E17_16 {call : jv_F} {l0 l2 : Option Value} {x : Int32} {st : List Value} {h : jv_H} : jv_ev call 17 16 [l0, some (.int x), l2] st h = jv_ev call 17 17 [l0, some (.int x), l2] (.int x :: st) h := je_iload_n D17_16 rfl rfl
theorem D17_17 : decode (jt_code 17) 17 = .ok (.if_icmp .ge 20, 3) := by decide +kernel
theorem E17_17 {call : jv_F} {l0 l1 l2 : Option Value} {x y : Int32} {st : List Value} {h : jv_H} : jv_ev call 17 17 [l0, l1, l2] (.int y :: .int x :: st) h = if y ≤ x then jv_ev call 17 37 [l0, l1, l2] st h else jv_ev call 17 20 [l0, l1, l2] st h := je_icmp D17_17 (by decide) rfl rfl
theorem D17_20 : decode (jt_code 17) 20 = .ok (.aload_n 0, 1) := by decide +kernel
theorem E17_20 {call : jv_F} {l1 l2 : Option Value} {a : Nat} {st : List Value} {h : jv_H} : jv_ev call 17 20 [some (.ref a), l1, l2] st h = jv_ev call 17 21 [some (.ref a), l1, l2] (.ref a :: st) h := je_aload_n (r := some a) D17_20 rfl rfl
theorem D17_21 : decode (jt_code 17) 21 = .ok (.invokevirtual 136, 3) := by decide +kernel
theorem E17_21 {call : jv_F} {l0 l1 l2 : Option Value}  {st : List Value} {m : Nat} {I : Nat → Int32} {A : Nat → Nat → Int32} {L : Nat → Nat → Int64} {rest : Nat → Option jv_C} {z : Nat × Nat} (hw : jv_wide st = true) (hc : (call 11 [.ref m] (jm_H m I A L rest z)).isSome = true) : jv_ev call 17 21 [l0, l1, l2] (.ref m :: st) (jm_H m I A L rest z) = jv_ev call 17 24 [l0, l1, l2] ((((call 11 [.ref m] (jm_H m I A L rest z)).getD (none, (jm_H m I A L rest z))).1).toList ++ st) ((call 11 [.ref m] (jm_H m I A L rest z)).getD (none, (jm_H m I A L rest z))).2 := by
  obtain ⟨⟨r, h'⟩, hv⟩ := Option.isSome_iff_exists.mp hc
  rw [hv]
  exact je_virt (y := 11) (as := []) D17_21 rfl (by decide) (by decide) rfl jm_cl hw hv
theorem D17_24 : decode (jt_code 17) 24 = .ok (.ifCond .le 13, 3) := by decide +kernel
theorem E17_24 {call : jv_F} {l0 l1 l2 : Option Value} {x : Int32} {st : List Value} {h : jv_H} : jv_ev call 17 24 [l0, l1, l2] (.int x :: st) h = if x ≤ 0 then jv_ev call 17 37 [l0, l1, l2] st h else jv_ev call 17 27 [l0, l1, l2] st h := je_ifc D17_24 (by decide) rfl rfl
theorem D17_27 : decode (jt_code 17) 27 = .ok (.aload_n 0, 1) := by decide +kernel
theorem E17_27 {call : jv_F} {l1 l2 : Option Value} {a : Nat} {st : List Value} {h : jv_H} : jv_ev call 17 27 [some (.ref a), l1, l2] st h = jv_ev call 17 28 [some (.ref a), l1, l2] (.ref a :: st) h := je_aload_n (r := some a) D17_27 rfl rfl
theorem D17_28 : decode (jt_code 17) 28 = .ok (.invokevirtual 139, 3) := by decide +kernel
theorem E17_28 {call : jv_F} {l0 l1 l2 : Option Value}  {st : List Value} {m : Nat} {I : Nat → Int32} {A : Nat → Nat → Int32} {L : Nat → Nat → Int64} {rest : Nat → Option jv_C} {z : Nat × Nat} (hw : jv_wide st = true) (hc : (call 18 [.ref m] (jm_H m I A L rest z)).isSome = true) : jv_ev call 17 28 [l0, l1, l2] (.ref m :: st) (jm_H m I A L rest z) = jv_ev call 17 31 [l0, l1, l2] ((((call 18 [.ref m] (jm_H m I A L rest z)).getD (none, (jm_H m I A L rest z))).1).toList ++ st) ((call 18 [.ref m] (jm_H m I A L rest z)).getD (none, (jm_H m I A L rest z))).2 := by
  obtain ⟨⟨r, h'⟩, hv⟩ := Option.isSome_iff_exists.mp hc
  rw [hv]
  exact je_virt (y := 18) (as := []) D17_28 rfl (by decide) (by decide) rfl jm_cl hw hv
theorem D17_31 : decode (jt_code 17) 31 = .ok (.iinc 2 1, 3) := by decide +kernel
theorem E17_31 {call : jv_F} {l0 l1 : Option Value} {x : Int32} {st : List Value} {h : jv_H} (hk : ¬ jv_is2 (some l1) = true) : jv_ev call 17 31 [l0, l1, some (.int x)] st h = jv_ev call 17 34 [l0, l1, some (.int (x + (nI 1)))] st h := je_iinc D17_31 rfl rfl (v := x + (nI 1)) (by rfl) (by show jv_st1 _ 2 _ = _; simp only [jv_st1, jv_kill, List.getElem?_cons_succ, List.getElem?_cons_zero, hk, if_false]; rfl)
theorem D17_34 : decode (jt_code 17) 34 = .ok (.goto (-19), 3) := by decide +kernel
theorem E17_34 {call : jv_F} {l0 l1 l2 : Option Value}  {st : List Value} {h : jv_H} : jv_ev call 17 34 [l0, l1, l2] st h = jv_ev call 17 15 [l0, l1, l2] st h := je_goto D17_34 (by decide)
theorem D17_37 : decode (jt_code 17) 37 = .ok (.aload_n 0, 1) := by decide +kernel
theorem E17_37 {call : jv_F} {l1 l2 : Option Value} {a : Nat} {st : List Value} {h : jv_H} : jv_ev call 17 37 [some (.ref a), l1, l2] st h = jv_ev call 17 38 [some (.ref a), l1, l2] (.ref a :: st) h := je_aload_n (r := some a) D17_37 rfl rfl
theorem D17_38 : decode (jt_code 17) 38 = .ok (.invokevirtual 136, 3) := by decide +kernel
theorem E17_38 {call : jv_F} {l0 l1 l2 : Option Value}  {st : List Value} {m : Nat} {I : Nat → Int32} {A : Nat → Nat → Int32} {L : Nat → Nat → Int64} {rest : Nat → Option jv_C} {z : Nat × Nat} (hw : jv_wide st = true) (hc : (call 11 [.ref m] (jm_H m I A L rest z)).isSome = true) : jv_ev call 17 38 [l0, l1, l2] (.ref m :: st) (jm_H m I A L rest z) = jv_ev call 17 41 [l0, l1, l2] ((((call 11 [.ref m] (jm_H m I A L rest z)).getD (none, (jm_H m I A L rest z))).1).toList ++ st) ((call 11 [.ref m] (jm_H m I A L rest z)).getD (none, (jm_H m I A L rest z))).2 := by
  obtain ⟨⟨r, h'⟩, hv⟩ := Option.isSome_iff_exists.mp hc
  rw [hv]
  exact je_virt (y := 11) (as := []) D17_38 rfl (by decide) (by decide) rfl jm_cl hw hv
theorem D17_41 : decode (jt_code 17) 41 = .ok (.ireturn, 1) := by decide +kernel
theorem E17_41 {call : jv_F} {l0 l1 l2 : Option Value} {v : Int32} {h : jv_H} : jv_ev call 17 41 [l0, l1, l2] [.int v] h = some (some (.int v), h) := je_iret (ty := .int) D17_41 rfl rfl rfl
/-! method 18: DrumMachineModel.tick -/
theorem N18 {d : Nat} {b : Nat} {h : jv_H} : jv_run (d + 1) 18 [.ref b] h = jv_ev (jv_run d) 18 0 [some (.ref b), none] [] h := jv_run_eq (Nat.le_of_ble_eq_true rfl) rfl
theorem D18_0 : decode (jt_code 18) 0 = .ok (.aload_n 0, 1) := by decide +kernel
theorem E18_0 {call : jv_F} {l1 : Option Value} {a : Nat} {st : List Value} {h : jv_H} : jv_ev call 18 0 [some (.ref a), l1] st h = jv_ev call 18 1 [some (.ref a), l1] (.ref a :: st) h := je_aload_n (r := some a) D18_0 rfl rfl
theorem D18_1 : decode (jt_code 18) 1 = .ok (.getfield 142, 3) := by decide +kernel
theorem E18_1 {call : jv_F} {l0 l1 : Option Value}  {st : List Value} {m : Nat} {I : Nat → Int32} {A : Nat → Nat → Int32} {L : Nat → Nat → Int64} {rest : Nat → Option jv_C} {z : Nat × Nat} : jv_ev call 18 1 [l0, l1] (.ref m :: st) (jm_H m I A L rest z) = jv_ev call 18 4 [l0, l1] (.int (I 32) :: st) (jm_H m I A L rest z) := je_get D18_1 rfl (by decide) jm_g32
theorem D18_4 : decode (jt_code 18) 4 = .ok (.ifCond .eq 18, 3) := by decide +kernel
theorem E18_4 {call : jv_F} {l0 l1 : Option Value} {x : Int32} {st : List Value} {h : jv_H} : jv_ev call 18 4 [l0, l1] (.int x :: st) h = if x = 0 then jv_ev call 18 22 [l0, l1] st h else jv_ev call 18 7 [l0, l1] st h := je_ifc D18_4 (by decide) rfl rfl
theorem D18_7 : decode (jt_code 18) 7 = .ok (.aload_n 0, 1) := by decide +kernel
theorem E18_7 {call : jv_F} {l1 : Option Value} {a : Nat} {st : List Value} {h : jv_H} : jv_ev call 18 7 [some (.ref a), l1] st h = jv_ev call 18 8 [some (.ref a), l1] (.ref a :: st) h := je_aload_n (r := some a) D18_7 rfl rfl
theorem D18_8 : decode (jt_code 18) 8 = .ok (.getfield 145, 3) := by decide +kernel
theorem E18_8 {call : jv_F} {l0 l1 : Option Value}  {st : List Value} {m : Nat} {I : Nat → Int32} {A : Nat → Nat → Int32} {L : Nat → Nat → Int64} {rest : Nat → Option jv_C} {z : Nat × Nat} : jv_ev call 18 8 [l0, l1] (.ref m :: st) (jm_H m I A L rest z) = jv_ev call 18 11 [l0, l1] (.int (I 35) :: st) (jm_H m I A L rest z) := je_get D18_8 rfl (by decide) jm_g35
theorem D18_11 : decode (jt_code 18) 11 = .ok (.aload_n 0, 1) := by decide +kernel
theorem E18_11 {call : jv_F} {l1 : Option Value} {a : Nat} {st : List Value} {h : jv_H} : jv_ev call 18 11 [some (.ref a), l1] st h = jv_ev call 18 12 [some (.ref a), l1] (.ref a :: st) h := je_aload_n (r := some a) D18_11 rfl rfl
theorem D18_12 : decode (jt_code 18) 12 = .ok (.getfield 148, 3) := by decide +kernel
theorem E18_12 {call : jv_F} {l0 l1 : Option Value}  {st : List Value} {m : Nat} {I : Nat → Int32} {A : Nat → Nat → Int32} {L : Nat → Nat → Int64} {rest : Nat → Option jv_C} {z : Nat × Nat} : jv_ev call 18 12 [l0, l1] (.ref m :: st) (jm_H m I A L rest z) = jv_ev call 18 15 [l0, l1] (.int (I 36) :: st) (jm_H m I A L rest z) := je_get D18_12 rfl (by decide) jm_g36
theorem D18_15 : decode (jt_code 18) 15 = .ok (.if_icmp .ne 7, 3) := by decide +kernel
theorem E18_15 {call : jv_F} {l0 l1 : Option Value} {x y : Int32} {st : List Value} {h : jv_H} : jv_ev call 18 15 [l0, l1] (.int y :: .int x :: st) h = if ¬ x = y then jv_ev call 18 22 [l0, l1] st h else jv_ev call 18 18 [l0, l1] st h := je_icmp D18_15 (by decide) rfl rfl
theorem D18_18 : decode (jt_code 18) 18 = .ok (.aload_n 0, 1) := by decide +kernel
theorem E18_18 {call : jv_F} {l1 : Option Value} {a : Nat} {st : List Value} {h : jv_H} : jv_ev call 18 18 [some (.ref a), l1] st h = jv_ev call 18 19 [some (.ref a), l1] (.ref a :: st) h := je_aload_n (r := some a) D18_18 rfl rfl
theorem D18_19 : decode (jt_code 18) 19 = .ok (.invokevirtual 151, 3) := by decide +kernel
theorem E18_19 {call : jv_F} {l0 l1 : Option Value}  {st : List Value} {m : Nat} {I : Nat → Int32} {A : Nat → Nat → Int32} {L : Nat → Nat → Int64} {rest : Nat → Option jv_C} {z : Nat × Nat} (hw : jv_wide st = true) (hc : (call 21 [.ref m] (jm_H m I A L rest z)).isSome = true) : jv_ev call 18 19 [l0, l1] (.ref m :: st) (jm_H m I A L rest z) = jv_ev call 18 22 [l0, l1] ((((call 21 [.ref m] (jm_H m I A L rest z)).getD (none, (jm_H m I A L rest z))).1).toList ++ st) ((call 21 [.ref m] (jm_H m I A L rest z)).getD (none, (jm_H m I A L rest z))).2 := by
  obtain ⟨⟨r, h'⟩, hv⟩ := Option.isSome_iff_exists.mp hc
  rw [hv]
  exact je_virt (y := 21) (as := []) D18_19 rfl (by decide) (by decide) rfl jm_cl hw hv
theorem D18_22 : decode (jt_code 18) 22 = .ok (.aload_n 0, 1) := by decide +kernel
theorem E18_22 {call : jv_F} {l1 : Option Value} {a : Nat} {st : List Value} {h : jv_H} : jv_ev call 18 22 [some (.ref a), l1] st h = jv_ev call 18 23 [some (.ref a), l1] (.ref a :: st) h := je_aload_n (r := some a) D18_22 rfl rfl
theorem D18_23 : decode (jt_code 18) 23 = .ok (.invokevirtual 121, 3) := by decide +kernel
theorem E18_23 {call : jv_F} {l0 l1 : Option Value}  {st : List Value} {m : Nat} {I : Nat → Int32} {A : Nat → Nat → Int32} {L : Nat → Nat → Int64} {rest : Nat → Option jv_C} {z : Nat × Nat} (hw : jv_wide st = true) (hc : (call 10 [.ref m] (jm_H m I A L rest z)).isSome = true) : jv_ev call 18 23 [l0, l1] (.ref m :: st) (jm_H m I A L rest z) = jv_ev call 18 26 [l0, l1] ((((call 10 [.ref m] (jm_H m I A L rest z)).getD (none, (jm_H m I A L rest z))).1).toList ++ st) ((call 10 [.ref m] (jm_H m I A L rest z)).getD (none, (jm_H m I A L rest z))).2 := by
  obtain ⟨⟨r, h'⟩, hv⟩ := Option.isSome_iff_exists.mp hc
  rw [hv]
  exact je_virt (y := 10) (as := []) D18_23 rfl (by decide) (by decide) rfl jm_cl hw hv
theorem D18_26 : decode (jt_code 18) 26 = .ok (.ifCond .ge 22, 3) := by decide +kernel
theorem E18_26 {call : jv_F} {l0 l1 : Option Value} {x : Int32} {st : List Value} {h : jv_H} : jv_ev call 18 26 [l0, l1] (.int x :: st) h = if 0 ≤ x then jv_ev call 18 48 [l0, l1] st h else jv_ev call 18 29 [l0, l1] st h := je_ifc D18_26 (by decide) rfl rfl
theorem D18_29 : decode (jt_code 18) 29 = .ok (.aload_n 0, 1) := by decide +kernel
theorem E18_29 {call : jv_F} {l1 : Option Value} {a : Nat} {st : List Value} {h : jv_H} : jv_ev call 18 29 [some (.ref a), l1] st h = jv_ev call 18 30 [some (.ref a), l1] (.ref a :: st) h := je_aload_n (r := some a) D18_29 rfl rfl
theorem D18_30 : decode (jt_code 18) 30 = .ok (.invokevirtual 154, 3) := by decide +kernel
theorem E18_30 {call : jv_F} {l0 l1 : Option Value}  {st : List Value} {m : Nat} {I : Nat → Int32} {A : Nat → Nat → Int32} {L : Nat → Nat → Int64} {rest : Nat → Option jv_C} {z : Nat × Nat} (hw : jv_wide st = true) (hc : (call 19 [.ref m] (jm_H m I A L rest z)).isSome = true) : jv_ev call 18 30 [l0, l1] (.ref m :: st) (jm_H m I A L rest z) = jv_ev call 18 33 [l0, l1] ((((call 19 [.ref m] (jm_H m I A L rest z)).getD (none, (jm_H m I A L rest z))).1).toList ++ st) ((call 19 [.ref m] (jm_H m I A L rest z)).getD (none, (jm_H m I A L rest z))).2 := by
  obtain ⟨⟨r, h'⟩, hv⟩ := Option.isSome_iff_exists.mp hc
  rw [hv]
  exact je_virt (y := 19) (as := []) D18_30 rfl (by decide) (by decide) rfl jm_cl hw hv
theorem D18_33 : decode (jt_code 18) 33 = .ok (.ifCond .ne 15, 3) := by decide +kernel
theorem E18_33 {call : jv_F} {l0 l1 : Option Value} {x : Int32} {st : List Value} {h : jv_H} : jv_ev call 18 33 [l0, l1] (.int x :: st) h = if ¬ x = 0 then jv_ev call 18 48 [l0, l1] st h else jv_ev call 18 36 [l0, l1] st h := je_ifc D18_33 (by decide) rfl rfl
theorem D18_36 : decode (jt_code 18) 36 = .ok (.aload_n 0, 1) := by decide +kernel
theorem E18_36 {call : jv_F} {l1 : Option Value} {a : Nat} {st : List Value} {h : jv_H} : jv_ev call 18 36 [some (.ref a), l1] st h = jv_ev call 18 37 [some (.ref a), l1] (.ref a :: st) h := je_aload_n (r := some a) D18_36 rfl rfl
theorem D18_37 : decode (jt_code 18) 37 = .ok (.getfield 142, 3) := by decide +kernel
theorem E18_37 {call : jv_F} {l0 l1 : Option Value}  {st : List Value} {m : Nat} {I : Nat → Int32} {A : Nat → Nat → Int32} {L : Nat → Nat → Int64} {rest : Nat → Option jv_C} {z : Nat × Nat} : jv_ev call 18 37 [l0, l1] (.ref m :: st) (jm_H m I A L rest z) = jv_ev call 18 40 [l0, l1] (.int (I 32) :: st) (jm_H m I A L rest z) := je_get D18_37 rfl (by decide) jm_g32
theorem D18_40 : decode (jt_code 18) 40 = .ok (.iconst 2, 1) := by decide +kernel
theorem E18_40 {call : jv_F} {l0 l1 : Option Value}  {st : List Value} {h : jv_H} : jv_ev call 18 40 [l0, l1] st h = jv_ev call 18 41 [l0, l1] (.int (nI 2) :: st) h := je_iconst D18_40 rfl (by decide)
theorem D18_41 : decode (jt_code 18) 41 = .ok (.if_icmp .eq 7, 3) := by decide +kernel
theorem E18_41 {call : jv_F} {l0 l1 : Option Value} {x y : Int32} {st : List Value} {h : jv_H} : jv_ev call 18 41 [l0, l1] (.int y :: .int x :: st) h = if x = y then jv_ev call 18 48 [l0, l1] st h else jv_ev call 18 44 [l0, l1] st h := je_icmp D18_41 (by decide) rfl rfl
theorem D18_44 : decode (jt_code 18) 44 = .ok (.aload_n 0, 1) := by decide +kernel
theorem E18_44 {call : jv_F} {l1 : Option Value} {a : Nat} {st : List Value} {h : jv_H} : jv_ev call 18 44 [some (.ref a), l1] st h = jv_ev call 18 45 [some (.ref a), l1] (.ref a :: st) h := je_aload_n (r := some a) D18_44 rfl rfl
theorem D18_45 : decode (jt_code 18) 45 = .ok (.invokevirtual 158, 3) := by decide +kernel
theorem E18_45 {call : jv_F} {l0 l1 : Option Value}  {st : List Value} {m : Nat} {I : Nat → Int32} {A : Nat → Nat → Int32} {L : Nat → Nat → Int64} {rest : Nat → Option jv_C} {z : Nat × Nat} (hw : jv_wide st = true) (hc : (call 24 [.ref m] (jm_H m I A L rest z)).isSome = true) : jv_ev call 18 45 [l0, l1] (.ref m :: st) (jm_H m I A L rest z) = jv_ev call 18 48 [l0, l1] ((((call 24 [.ref m] (jm_H m I A L rest z)).getD (none, (jm_H m I A L rest z))).1).toList ++ st) ((call 24 [.ref m] (jm_H m I A L rest z)).getD (none, (jm_H m I A L rest z))).2 := by
  obtain ⟨⟨r, h'⟩, hv⟩ := Option.isSome_iff_exists.mp hc
  rw [hv]
  exact je_virt (y := 24) (as := []) D18_45 rfl (by decide) (by decide) rfl jm_cl hw hv
theorem D18_48 : decode (jt_code 18) 48 = .ok (.aload_n 0, 1) := by decide +kernel
theorem E18_48 {call : jv_F} {l1 : Option Value} {a : Nat} {st : List Value} {h : jv_H} : jv_ev call 18 48 [some (.ref a), l1] st h = jv_ev call 18 49 [some (.ref a), l1] (.ref a :: st) h := je_aload_n (r := some a) D18_48 rfl rfl
theorem D18_49 : decode (jt_code 18) 49 = .ok (.getfield 142, 3) := by decide +kernel
theorem E18_49 {call : jv_F} {l0 l1 : Option Value}  {st : List Value} {m : Nat} {I : Nat → Int32} {A : Nat → Nat → Int32} {L : Nat → Nat → Int64} {rest : Nat → Option jv_C} {z : Nat × Nat} : jv_ev call 18 49 [l0, l1] (.ref m :: st) (jm_H m I A L rest z) = jv_ev call 18 52 [l0, l1] (.int (I 32) :: st) (jm_H m I A L rest z) := je_get D18_49 rfl (by decide) jm_g32
theorem D18_52 : decode (jt_code 18) 52 = .ok (.ifCond .ne 14, 3) := by decide +kernel
theorem E18_52 {call : jv_F} {l0 l1 : Option Value} {x : Int32} {st : List Value} {h : jv_H} : jv_ev call 18 52 [l0, l1] (.int x :: st) h = if ¬ x = 0 then jv_ev call 18 66 [l0, l1] st h else jv_ev call 18 55 [l0, l1] st h := je_ifc D18_52 (by decide) rfl rfl
theorem D18_55 : decode (jt_code 18) 55 = .ok (.aload_n 0, 1) := by decide +kernel
theorem E18_55 {call : jv_F} {l1 : Option Value} {a : Nat} {st : List Value} {h : jv_H} : jv_ev call 18 55 [some (.ref a), l1] st h = jv_ev call 18 56 [some (.ref a), l1] (.ref a :: st) h := je_aload_n (r := some a) D18_55 rfl rfl
theorem D18_56 : decode (jt_code 18) 56 = .ok (.getfield 161, 3) := by decide +kernel
theorem E18_56 {call : jv_F} {l0 l1 : Option Value}  {st : List Value} {m : Nat} {I : Nat → Int32} {A : Nat → Nat → Int32} {L : Nat → Nat → Int64} {rest : Nat → Option jv_C} {z : Nat × Nat} : jv_ev call 18 56 [l0, l1] (.ref m :: st) (jm_H m I A L rest z) = jv_ev call 18 59 [l0, l1] (.int (I 31) :: st) (jm_H m I A L rest z) := je_get D18_56 rfl (by decide) jm_g31
theorem D18_59 : decode (jt_code 18) 59 = .ok (.ifCond .le 7, 3) := by decide +kernel
theorem E18_59 {call : jv_F} {l0 l1 : Option Value} {x : Int32} {st : List Value} {h : jv_H} : jv_ev call 18 59 [l0, l1] (.int x :: st) h = if x ≤ 0 then jv_ev call 18 66 [l0, l1] st h else jv_ev call 18 62 [l0, l1] st h := je_ifc D18_59 (by decide) rfl rfl
theorem D18_62 : decode (jt_code 18) 62 = .ok (.aload_n 0, 1) := by decide +kernel
theorem E18_62 {call : jv_F} {l1 : Option Value} {a : Nat} {st : List Value} {h : jv_H} : jv_ev call 18 62 [some (.ref a), l1] st h = jv_ev call 18 63 [some (.ref a), l1] (.ref a :: st) h := je_aload_n (r := some a) D18_62 rfl rfl
theorem D18_63 : decode (jt_code 18) 63 = .ok (.invokevirtual 164, 3) := by decide +kernel
theorem E18_63 {call : jv_F} {l0 l1 : Option Value}  {st : List Value} {m : Nat} {I : Nat → Int32} {A : Nat → Nat → Int32} {L : Nat → Nat → Int64} {rest : Nat → Option jv_C} {z : Nat × Nat} (hw : jv_wide st = true) (hc : (call 28 [.ref m] (jm_H m I A L rest z)).isSome = true) : jv_ev call 18 63 [l0, l1] (.ref m :: st) (jm_H m I A L rest z) = jv_ev call 18 66 [l0, l1] ((((call 28 [.ref m] (jm_H m I A L rest z)).getD (none, (jm_H m I A L rest z))).1).toList ++ st) ((call 28 [.ref m] (jm_H m I A L rest z)).getD (none, (jm_H m I A L rest z))).2 := by
  obtain ⟨⟨r, h'⟩, hv⟩ := Option.isSome_iff_exists.mp hc
  rw [hv]
  exact je_virt (y := 28) (as := []) D18_63 rfl (by decide) (by decide) rfl jm_cl hw hv
theorem D18_66 : decode (jt_code 18) 66 = .ok (.aload_n 0, 1) := by decide +kernel
theorem E18_66 {call : jv_F} {l1 : Option Value} {a : Nat} {st : List Value} {h : jv_H} : jv_ev call 18 66 [some (.ref a), l1] st h = jv_ev call 18 67 [some (.ref a), l1] (.ref a :: st) h := je_aload_n (r := some a) D18_66 rfl rfl
theorem D18_67 : decode (jt_code 18) 67 = .ok (.invokevirtual 167, 3) := by decide +kernel
theorem E18_67 {call : jv_F} {l0 l1 : Option Value}  {st : List Value} {m : Nat} {I : Nat → Int32} {A : Nat → Nat → Int32} {L : Nat → Nat → Int64} {rest : Nat → Option jv_C} {z : Nat × Nat} (hw : jv_wide st = true) (hc : (call 29 [.ref m] (jm_H m I A L rest z)).isSome = true) : jv_ev call 18 67 [l0, l1] (.ref m :: st) (jm_H m I A L rest z) = jv_ev call 18 70 [l0, l1] ((((call 29 [.ref m] (jm_H m I A L rest z)).getD (none, (jm_H m I A L rest z))).1).toList ++ st) ((call 29 [.ref m] (jm_H m I A L rest z)).getD (none, (jm_H m I A L rest z))).2 := by
  obtain ⟨⟨r, h'⟩, hv⟩ := Option.isSome_iff_exists.mp hc
  rw [hv]
  exact je_virt (y := 29) (as := []) D18_67 rfl (by decide) (by decide) rfl jm_cl hw hv
theorem D18_70 : decode (jt_code 18) 70 = .ok (.istore_n 1, 1) := by decide +kernel
theorem E18_70 {call : jv_F} {l0 l1 : Option Value} {x : Int32} {st : List Value} {h : jv_H} (hk : ¬ jv_is2 (some l0) = true) : jv_ev call 18 70 [l0, l1] (.int x :: st) h = jv_ev call 18 71 [l0, some (.int x)] st h := je_istore_n D18_70 rfl (Nat.le_of_ble_eq_true rfl) (by show jv_st1 _ 1 _ = _; simp only [jv_st1, jv_kill, List.getElem?_cons_succ, List.getElem?_cons_zero, hk, if_false]; rfl)
theorem D18_71 : decode (jt_code 18) 71 = .ok (.iload_n 1, 1) := by decide +kernel
theorem E18_71 {call : jv_F} {l0 : Option Value} {x : Int32} {st : List Value} {h : jv_H} : jv_ev call 18 71 [l0, some (.int x)] st h = jv_ev call 18 72 [l0, some (.int x)] (.int x :: st) h := je_iload_n D18_71 rfl rfl
theorem D18_72 : decode (jt_code 18) 72 = .ok (.ifCond .ge 16, 3) := by decide +kernel
theorem E18_72 {call : jv_F} {l0 l1 : Option Value} {x : Int32} {st : List Value} {h : jv_H} : jv_ev call 18 72 [l0, l1] (.int x :: st) h = if 0 ≤ x then jv_ev call 18 88 [l0, l1] st h else jv_ev call 18 75 [l0, l1] st h := je_ifc D18_72 (by decide) rfl rfl
theorem D18_75 : decode (jt_code 18) 75 = .ok (.aload_n 0, 1) := by decide +kernel
theorem E18_75 {call : jv_F} {l1 : Option Value} {a : Nat} {st : List Value} {h : jv_H} : jv_ev call 18 75 [some (.ref a), l1] st h = jv_ev call 18 76 [some (.ref a), l1] (.ref a :: st) h := je_aload_n (r := some a) D18_75 rfl rfl
theorem D18_76 : decode (jt_code 18) 76 = .ok (.dup, 1) := by decide +kernel
theorem E18_76 {call : jv_F} {l0 l1 : Option Value} {a : Nat} {st : List Value} {h : jv_H} : jv_ev call 18 76 [l0, l1] (.ref a :: st) h = jv_ev call 18 77 [l0, l1] (.ref a :: .ref a :: st) h := je_dup D18_76 rfl rfl
theorem E18_76i {call : jv_F} {l0 l1 : Option Value} {x : Int32} {st : List Value} {h : jv_H} : jv_ev call 18 76 [l0, l1] (.int x :: st) h = jv_ev call 18 77 [l0, l1] (.int x :: .int x :: st) h := je_dup D18_76 rfl rfl
theorem D18_77 : decode (jt_code 18) 77 = .ok (.getfield 170, 3) := by decide +kernel
theorem E18_77 {call : jv_F} {l0 l1 : Option Value}  {st : List Value} {m : Nat} {I : Nat → Int32} {A : Nat → Nat → Int32} {L : Nat → Nat → Int64} {rest : Nat → Option jv_C} {z : Nat × Nat} : jv_ev call 18 77 [l0, l1] (.ref m :: st) (jm_H m I A L rest z) = jv_ev call 18 80 [l0, l1] (.int (I 41) :: st) (jm_H m I A L rest z) := je_get D18_77 rfl (by decide) jm_g41
theorem D18_80 : decode (jt_code 18) 80 = .ok (.iconst 1, 1) := by decide +kernel
theorem E18_80 {call : jv_F} {l0 l1 : Option Value}  {st : List Value} {h : jv_H} : jv_ev call 18 80 [l0, l1] st h = jv_ev call 18 81 [l0, l1] (.int (nI 1) :: st) h := je_iconst D18_80 rfl (by decide)
theorem D18_81 : decode (jt_code 18) 81 = .ok (.iadd, 1) := by decide +kernel
theorem E18_81 {call : jv_F} {l0 l1 : Option Value} {x y : Int32} {st : List Value} {h : jv_H} : jv_ev call 18 81 [l0, l1] (.int y :: .int x :: st) h = jv_ev call 18 82 [l0, l1] (.int (x + y) :: st) h := je_b2 (f := fun x y => x + y) D18_81 rfl (fun _ => rfl)
theorem D18_82 : decode (jt_code 18) 82 = .ok (.putfield 170, 3) := by decide +kernel
theorem E18_82 {call : jv_F} {l0 l1 : Option Value} {v : Int32} {st : List Value} {m : Nat} {I : Nat → Int32} {A : Nat → Nat → Int32} {L : Nat → Nat → Int64} {rest : Nat → Option jv_C} {z : Nat × Nat} : jv_ev call 18 82 [l0, l1] (.int v :: .ref m :: st) (jm_H m I A L rest z) = jv_ev call 18 85 [l0, l1] st (jm_H m (upd I 41 v) A L rest z) := je_put D18_82 rfl (by decide) (by decide) jm_p41
theorem D18_85 : decode (jt_code 18) 85 = .ok (.goto 13, 3) := by decide +kernel
theorem E18_85 {call : jv_F} {l0 l1 : Option Value}  {st : List Value} {h : jv_H} : jv_ev call 18 85 [l0, l1] st h = jv_ev call 18 98 [l0, l1] st h := je_goto D18_85 (by decide)
theorem D18_88 : decode (jt_code 18) 88 = .ok (.aload_n 0, 1) := by decide +kernel
theorem E18_88 {call : jv_F} {l1 : Option Value} {a : Nat} {st : List Value} {h : jv_H} : jv_ev call 18 88 [some (.ref a), l1] st h = jv_ev call 18 89 [some (.ref a), l1] (.ref a :: st) h := je_aload_n (r := some a) D18_88 rfl rfl
theorem D18_89 : decode (jt_code 18) 89 = .ok (.iload_n 1, 1) := by decide +kernel
theorem E18_89 {call : jv_F} {l0 : Option Value} {x : Int32} {st : List Value} {h : jv_H} : jv_ev call 18 89 [l0, some (.int x)] st h = jv_ev call 18 90 [l0, some (.int x)] (.int x :: st) h := je_iload_n D18_89 rfl rfl
theorem D18_90 : decode (jt_code 18) 90 = .ok (.putfield 94, 3) := by decide +kernel
theorem E18_90 {call : jv_F} {l0 l1 : Option Value} {v : Int32} {st : List Value} {m : Nat} {I : Nat → Int32} {A : Nat → Nat → Int32} {L : Nat → Nat → Int64} {rest : Nat → Option jv_C} {z : Nat × Nat} : jv_ev call 18 90 [l0, l1] (.int v :: .ref m :: st) (jm_H m I A L rest z) = jv_ev call 18 93 [l0, l1] st (jm_H m (upd I 37 v) A L rest z) := je_put D18_90 rfl (by decide) (by decide) jm_p37
theorem D18_93 : decode (jt_code 18) 93 = .ok (.aload_n 0, 1) := by decide +kernel
theorem E18_93 {call : jv_F} {l1 : Option Value} {a : Nat} {st : List Value} {h : jv_H} : jv_ev call 18 93 [some (.ref a), l1] st h = jv_ev call 18 94 [some (.ref a), l1] (.ref a :: st) h := je_aload_n (r := some a) D18_93 rfl rfl
theorem D18_94 : decode (jt_code 18) 94 = .ok (.iload_n 1, 1) := by decide +kernel
theorem E18_94 {call : jv_F} {l0 : Option Value} {x : Int32} {st : List Value} {h : jv_H} : jv_ev call 18 94 [l0, some (.int x)] st h = jv_ev call 18 95 [l0, some (.int x)] (.int x :: st) h := je_iload_n D18_94 rfl rfl
theorem D18_95 : decode (jt_code 18) 95 = .ok (.invokevirtual 173, 3) := by decide +kernel
theorem E18_95 {call : jv_F} {l0 l1 : Option Value} {v0 : Value}  {st : List Value} {m : Nat} {I : Nat → Int32} {A : Nat → Nat → Int32} {L : Nat → Nat → Int64} {rest : Nat → Option jv_C} {z : Nat × Nat} (hw : jv_wide st = true) (hc : (call 35 [.ref m, v0] (jm_H m I A L rest z)).isSome = true) : jv_ev call 18 95 [l0, l1] (v0 :: .ref m :: st) (jm_H m I A L rest z) = jv_ev call 18 98 [l0, l1] ((((call 35 [.ref m, v0] (jm_H m I A L rest z)).getD (none, (jm_H m I A L rest z))).1).toList ++ st) ((call 35 [.ref m, v0] (jm_H m I A L rest z)).getD (none, (jm_H m I A L rest z))).2 := by
  obtain ⟨⟨r, h'⟩, hv⟩ := Option.isSome_iff_exists.mp hc
  rw [hv]
  exact je_virt (y := 35) (as := [v0]) D18_95 rfl (by decide) (by decide) rfl jm_cl hw hv
theorem D18_98 : decode (jt_code 18) 98 = .ok (.aload_n 0, 1) := by decide +kernel
theorem E18_98 {call : jv_F} {l1 : Option Value} {a : Nat} {st : List Value} {h : jv_H} : jv_ev call 18 98 [some (.ref a), l1] st h = jv_ev call 18 99 [some (.ref a), l1] (.ref a :: st) h := je_aload_n (r := some a) D18_98 rfl rfl
theorem D18_99 : decode (jt_code 18) 99 = .ok (.dup, 1) := by decide +kernel
theorem E18_99 {call : jv_F} {l0 l1 : Option Value} {a : Nat} {st : List Value} {h : jv_H} : jv_ev call 18 99 [l0, l1] (.ref a :: st) h = jv_ev call 18 100 [l0, l1] (.ref a :: .ref a :: st) h := je_dup D18_99 rfl rfl
theorem E18_99i {call : jv_F} {l0 l1 : Option Value} {x : Int32} {st : List Value} {h : jv_H} : jv_ev call 18 99 [l0, l1] (.int x :: st) h = jv_ev call 18 100 [l0, l1] (.int x :: .int x :: st) h := je_dup D18_99 rfl rfl
theorem D18_100 : decode (jt_code 18) 100 = .ok (.getfield 148, 3) := by decide +kernel
theorem E18_100 {call : jv_F} {l0 l1 : Option Value}  {st : List Value} {m : Nat} {I : Nat → Int32} {A : Nat → Nat → Int32} {L : Nat → Nat → Int64} {rest : Nat → Option jv_C} {z : Nat × Nat} : jv_ev call 18 100 [l0, l1] (.ref m :: st) (jm_H m I A L rest z) = jv_ev call 18 103 [l0, l1] (.int (I 36) :: st) (jm_H m I A L rest z) := je_get D18_100 rfl (by decide) jm_g36
theorem D18_103 : decode (jt_code 18) 103 = .ok (.iconst 1, 1) := by decide +kernel
theorem E18_103 {call : jv_F} {l0 l1 : Option Value}  {st : List Value} {h : jv_H} : jv_ev call 18 103 [l0, l1] st h = jv_ev call 18 104 [l0, l1] (.int (nI 1) :: st) h := je_iconst D18_103 rfl (by decide)
theorem D18_104 : decode (jt_code 18) 104 = .ok (.iadd, 1) := by decide +kernel
theorem E18_104 {call : jv_F} {l0 l1 : Option Value} {x y : Int32} {st : List Value} {h : jv_H} : jv_ev call 18 104 [l0, l1] (.int y :: .int x :: st) h = jv_ev call 18 105 [l0, l1] (.int (x + y) :: st) h := je_b2 (f := fun x y => x + y) D18_104 rfl (fun _ => rfl)
theorem D18_105 : decode (jt_code 18) 105 = .ok (.putfield 148, 3) := by decide +kernel
theorem E18_105 {call : jv_F} {l0 l1 : Option Value} {v : Int32} {st : List Value} {m : Nat} {I : Nat → Int32} {A : Nat → Nat → Int32} {L : Nat → Nat → Int64} {rest : Nat → Option jv_C} {z : Nat × Nat} : jv_ev call 18 105 [l0, l1] (.int v :: .ref m :: st) (jm_H m I A L rest z) = jv_ev call 18 108 [l0, l1] st (jm_H m (upd I 36 v) A L rest z) := je_put D18_105 rfl (by decide) (by decide) jm_p36
theorem D18_108 : decode (jt_code 18) 108 = .ok (.return_, 1) := by decide +kernel
theorem E18_108 {call : jv_F} {l0 l1 : Option Value}  {h : jv_H} : jv_ev call 18 108 [l0, l1] [] h = some (none, h) := je_ret D18_108 rfl
/-! method 19: DrumMachineModel.isWriteAsked -/
theorem N19 {d : Nat} {b : Nat} {h : jv_H} : jv_run (d + 1) 19 [.ref b] h = jv_ev (jv_run d) 19 0 [some (.ref b), none] [] h := jv_run_eq (Nat.le_of_ble_eq_true rfl) rfl
theorem D19_0 : decode (jt_code 19) 0 = .ok (.iconst 0, 1) := by decide +kernel
theorem E19_0 {call : jv_F} {l0 l1 : Option Value}  {st : List Value} {h : jv_H} : jv_ev call 19 0 [l0, l1] st h = jv_ev call 19 1 [l0, l1] (.int (nI 0) :: st) h := je_iconst D19_0 rfl (by decide)
theorem D19_1 : decode (jt_code 19) 1 = .ok (.istore_n 1, 1) := by decide +kernel
theorem E19_1 {call : jv_F} {l0 l1 : Option Value} {x : Int32} {st : List Value} {h : jv_H} (hk : ¬ jv_is2 (some l0) = true) : jv_ev call 19 1 [l0, l1] (.int x :: st) h = jv_ev call 19 2 [l0, some (.int x)] st h := je_istore_n D19_1 rfl (Nat.le_of_ble_eq_true rfl) (by show jv_st1 _ 1 _ = _; simp only [jv_st1, jv_kill, List.getElem?_cons_succ, List.getElem?_cons_zero, hk, if_false]; rfl)
theorem D19_2 : decode (jt_code 19) 2 = .ok (.iload_n 1, 1) := by decide +kernel
theorem E19_2 {call : jv_F} {l0 : Option Value} {x : Int32} {st : List Value} {h : jv_H} : jv_ev call 19 2 [l0, some (.int x)] st h = jv_ev call 19 3 [l0, some (.int x)] (.int x :: st) h := je_iload_n D19_2 rfl rfl
theorem D19_3 : decode (jt_code 19) 3 = .ok (.aload_n 0, 1) := by decide +kernel
theorem E19_3 {call : jv_F} {l1 : Option Value} {a : Nat} {st : List Value} {h : jv_H} : jv_ev call 19 3 [some (.ref a), l1] st h = jv_ev call 19 4 [some (.ref a), l1] (.ref a :: st) h := je_aload_n (r := some a) D19_3 rfl rfl
theorem D19_4 : decode (jt_code 19) 4 = .ok (.getfield 161, 3) := by decide +kernel
theorem E19_4 {call : jv_F} {l0 l1 : Option Value}  {st : List Value} {m : Nat} {I : Nat → Int32} {A : Nat → Nat → Int32} {L : Nat → Nat → Int64} {rest : Nat → Option jv_C} {z : Nat × Nat} : jv_ev call 19 4 [l0, l1] (.ref m :: st) (jm_H m I A L rest z) = jv_ev call 19 7 [l0, l1] (.int (I 31) :: st) (jm_H m I A L rest z) := je_get D19_4 rfl (by decide) jm_g31
theorem D19_7 : decode (jt_code 19) 7 = .ok (.if_icmp .ge 21, 3) := by decide +kernel
theorem E19_7 {call : jv_F} {l0 l1 : Option Value} {x y : Int32} {st : List Value} {h : jv_H} : jv_ev call 19 7 [l0, l1] (.int y :: .int x :: st) h = if y ≤ x then jv_ev call 19 28 [l0, l1] st h else jv_ev call 19 10 [l0, l1] st h := je_icmp D19_7 (by decide) rfl rfl
theorem D19_10 : decode (jt_code 19) 10 = .ok (.aload_n 0, 1) := by decide +kernel
theorem E19_10 {call : jv_F} {l1 : Option Value} {a : Nat} {st : List Value} {h : jv_H} : jv_ev call 19 10 [some (.ref a), l1] st h = jv_ev call 19 11 [some (.ref a), l1] (.ref a :: st) h := je_aload_n (r := some a) D19_10 rfl rfl
theorem D19_11 : decode (jt_code 19) 11 = .ok (.getfield 88, 3) := by decide +kernel
theorem E19_11 {call : jv_F} {l0 l1 : Option Value}  {st : List Value} {m : Nat} {I : Nat → Int32} {A : Nat → Nat → Int32} {L : Nat → Nat → Int64} {rest : Nat → Option jv_C} {z : Nat × Nat} : jv_ev call 19 11 [l0, l1] (.ref m :: st) (jm_H m I A L rest z) = jv_ev call 19 14 [l0, l1] (.ref (m + 25) :: st) (jm_H m I A L rest z) := je_get D19_11 rfl (by decide) jm_g29
theorem D19_14 : decode (jt_code 19) 14 = .ok (.iload_n 1, 1) := by decide +kernel
theorem E19_14 {call : jv_F} {l0 : Option Value} {x : Int32} {st : List Value} {h : jv_H} : jv_ev call 19 14 [l0, some (.int x)] st h = jv_ev call 19 15 [l0, some (.int x)] (.int x :: st) h := je_iload_n D19_14 rfl rfl
theorem D19_15 : decode (jt_code 19) 15 = .ok (.iaload, 1) := by decide +kernel
theorem E19_15 {call : jv_F} {l0 l1 : Option Value} {i : Nat} {st : List Value} {m : Nat} {I : Nat → Int32} {A : Nat → Nat → Int32} {L : Nat → Nat → Int64} {rest : Nat → Option jv_C} {z : Nat × Nat} (hi : i < 18) : jv_ev call 19 15 [l0, l1] (.int (nI i) :: .ref (m + 25) :: st) (jm_H m I A L rest z) = jv_ev call 19 16 [l0, l1] (.int (A 29 i) :: st) (jm_H m I A L rest z) := je_iald D19_15 rfl (jm_l29 hi)
theorem D19_16 : decode (jt_code 19) 16 = .ok (.iconst 2, 1) := by decide +kernel
theorem E19_16 {call : jv_F} {l0 l1 : Option Value}  {st : List Value} {h : jv_H} : jv_ev call 19 16 [l0, l1] st h = jv_ev call 19 17 [l0, l1] (.int (nI 2) :: st) h := je_iconst D19_16 rfl (by decide)
theorem D19_17 : decode (jt_code 19) 17 = .ok (.if_icmp .ne 5, 3) := by decide +kernel
theorem E19_17 {call : jv_F} {l0 l1 : Option Value} {x y : Int32} {st : List Value} {h : jv_H} : jv_ev call 19 17 [l0, l1] (.int y :: .int x :: st) h = if ¬ x = y then jv_ev call 19 22 [l0, l1] st h else jv_ev call 19 20 [l0, l1] st h := je_icmp D19_17 (by decide) rfl rfl
theorem D19_20 : decode (jt_code 19) 20 = .ok (.iconst 1, 1) := by decide +kernel
theorem E19_20 {call : jv_F} {l0 l1 : Option Value}  {st : List Value} {h : jv_H} : jv_ev call 19 20 [l0, l1] st h = jv_ev call 19 21 [l0, l1] (.int (nI 1) :: st) h := je_iconst D19_20 rfl (by decide)
theorem D19_21 : decode (jt_code 19) 21 = .ok (.ireturn, 1) := by decide +kernel
theorem E19_21 {call : jv_F} {l0 l1 : Option Value} {v : Int32} {h : jv_H} (hn : narrow .boolean (.int v) = .int v) (hf : fits .boolean (.int v) = true) : jv_ev call 19 21 [l0, l1] [.int v] h = some (some (.int v), h) := je_iret (ty := .boolean) D19_21 rfl hn hf
theorem D19_22 : decode (jt_code 19) 22 = .ok (.iinc 1 1, 3) := by decide +kernel
theorem E19_22 {call : jv_F} {l0 : Option Value} {x : Int32} {st : List Value} {h : jv_H} (hk : ¬ jv_is2 (some l0) = true) : jv_ev call 19 22 [l0, some (.int x)] st h = jv_ev call 19 25 [l0, some (.int (x + (nI 1)))] st h := je_iinc D19_22 rfl rfl (v := x + (nI 1)) (by rfl) (by show jv_st1 _ 1 _ = _; simp only [jv_st1, jv_kill, List.getElem?_cons_succ, List.getElem?_cons_zero, hk, if_false]; rfl)
theorem D19_25 : decode (jt_code 19) 25 = .ok (.goto (-23), 3) := by decide +kernel
theorem E19_25 {call : jv_F} {l0 l1 : Option Value}  {st : List Value} {h : jv_H} : jv_ev call 19 25 [l0, l1] st h = jv_ev call 19 2 [l0, l1] st h := je_goto D19_25 (by decide)
theorem D19_28 : decode (jt_code 19) 28 = .ok (.iconst 0, 1) := by decide +kernel
theorem E19_28 {call : jv_F} {l0 l1 : Option Value}  {st : List Value} {h : jv_H} : jv_ev call 19 28 [l0, l1] st h = jv_ev call 19 29 [l0, l1] (.int (nI 0) :: st) h := je_iconst D19_28 rfl (by decide)
theorem D19_29 : decode (jt_code 19) 29 = .ok (.ireturn, 1) := by decide +kernel
theorem E19_29 {call : jv_F} {l0 l1 : Option Value} {v : Int32} {h : jv_H} (hn : narrow .boolean (.int v) = .int v) (hf : fits .boolean (.int v) = true) : jv_ev call 19 29 [l0, l1] [.int v] h = some (some (.int v), h) := je_iret (ty := .boolean) D19_29 rfl hn hf
/-! method 20: DrumMachineModel.leave -/
theorem N20 {d : Nat} {b : Nat} {a0 : Int32} {h : jv_H} : jv_run (d + 1) 20 [.ref b, .int a0] h = jv_ev (jv_run d) 20 0 [some (.ref b), some (.int a0)] [] h := jv_run_eq (Nat.le_of_ble_eq_true rfl) rfl
theorem D20_0 : decode (jt_code 20) 0 = .ok (.aload_n 0, 1) := by decide +kernel
theorem E20_0 {call : jv_F} {l1 : Option Value} {a : Nat} {st : List Value} {h : jv_H} : jv_ev call 20 0 [some (.ref a), l1] st h = jv_ev call 20 1 [some (.ref a), l1] (.ref a :: st) h := je_aload_n (r := some a) D20_0 rfl rfl
theorem D20_1 : decode (jt_code 20) 1 = .ok (.getfield 70, 3) := by decide +kernel
theorem E20_1 {call : jv_F} {l0 l1 : Option Value}  {st : List Value} {m : Nat} {I : Nat → Int32} {A : Nat → Nat → Int32} {L : Nat → Nat → Int64} {rest : Nat → Option jv_C} {z : Nat × Nat} : jv_ev call 20 1 [l0, l1] (.ref m :: st) (jm_H m I A L rest z) = jv_ev call 20 4 [l0, l1] (.ref (m + 19) :: st) (jm_H m I A L rest z) := je_get D20_1 rfl (by decide) jm_g23
theorem D20_4 : decode (jt_code 20) 4 = .ok (.iload_n 1, 1) := by decide +kernel
theorem E20_4 {call : jv_F} {l0 : Option Value} {x : Int32} {st : List Value} {h : jv_H} : jv_ev call 20 4 [l0, some (.int x)] st h = jv_ev call 20 5 [l0, some (.int x)] (.int x :: st) h := je_iload_n D20_4 rfl rfl
theorem D20_5 : decode (jt_code 20) 5 = .ok (.iconst (-1), 1) := by decide +kernel
theorem E20_5 {call : jv_F} {l0 l1 : Option Value}  {st : List Value} {h : jv_H} : jv_ev call 20 5 [l0, l1] st h = jv_ev call 20 6 [l0, l1] (.int (-1) :: st) h := je_iconst D20_5 rfl (by decide)
theorem D20_6 : decode (jt_code 20) 6 = .ok (.iastore, 1) := by decide +kernel
theorem E20_6 {call : jv_F} {l0 l1 : Option Value} {i : Nat} {v : Int32} {st : List Value} {m : Nat} {I : Nat → Int32} {A : Nat → Nat → Int32} {L : Nat → Nat → Int64} {rest : Nat → Option jv_C} {z : Nat × Nat} (hi : i < 17) : jv_ev call 20 6 [l0, l1] (.int v :: .int (nI i) :: .ref (m + 19) :: st) (jm_H m I A L rest z) = jv_ev call 20 7 [l0, l1] st (jm_H m I (va_up A 23 (upd (A 23) i v)) L rest z) := je_iast D20_6 rfl (jm_s23 hi)
theorem D20_7 : decode (jt_code 20) 7 = .ok (.aload_n 0, 1) := by decide +kernel
theorem E20_7 {call : jv_F} {l1 : Option Value} {a : Nat} {st : List Value} {h : jv_H} : jv_ev call 20 7 [some (.ref a), l1] st h = jv_ev call 20 8 [some (.ref a), l1] (.ref a :: st) h := je_aload_n (r := some a) D20_7 rfl rfl
theorem D20_8 : decode (jt_code 20) 8 = .ok (.getfield 79, 3) := by decide +kernel
theorem E20_8 {call : jv_F} {l0 l1 : Option Value}  {st : List Value} {m : Nat} {I : Nat → Int32} {A : Nat → Nat → Int32} {L : Nat → Nat → Int64} {rest : Nat → Option jv_C} {z : Nat × Nat} : jv_ev call 20 8 [l0, l1] (.ref m :: st) (jm_H m I A L rest z) = jv_ev call 20 11 [l0, l1] (.ref (m + 22) :: st) (jm_H m I A L rest z) := je_get D20_8 rfl (by decide) jm_g26
theorem D20_11 : decode (jt_code 20) 11 = .ok (.iload_n 1, 1) := by decide +kernel
theorem E20_11 {call : jv_F} {l0 : Option Value} {x : Int32} {st : List Value} {h : jv_H} : jv_ev call 20 11 [l0, some (.int x)] st h = jv_ev call 20 12 [l0, some (.int x)] (.int x :: st) h := je_iload_n D20_11 rfl rfl
theorem D20_12 : decode (jt_code 20) 12 = .ok (.iconst 0, 1) := by decide +kernel
theorem E20_12 {call : jv_F} {l0 l1 : Option Value}  {st : List Value} {h : jv_H} : jv_ev call 20 12 [l0, l1] st h = jv_ev call 20 13 [l0, l1] (.int (nI 0) :: st) h := je_iconst D20_12 rfl (by decide)
theorem D20_13 : decode (jt_code 20) 13 = .ok (.bastore, 1) := by decide +kernel
theorem E20_13 {call : jv_F} {l0 l1 : Option Value} {i : Nat} {v : Int32} {st : List Value} {m : Nat} {I : Nat → Int32} {A : Nat → Nat → Int32} {L : Nat → Nat → Int64} {rest : Nat → Option jv_C} {z : Nat × Nat} (hi : i < 17) (hv : narrow .boolean (.int v) = .int v) : jv_ev call 20 13 [l0, l1] (.int v :: .int (nI i) :: .ref (m + 22) :: st) (jm_H m I A L rest z) = jv_ev call 20 14 [l0, l1] st (jm_H m I (va_up A 26 (upd (A 26) i v)) L rest z) := je_bast D20_13 rfl (by rw [hv]; exact jm_s26 hi)
theorem D20_14 : decode (jt_code 20) 14 = .ok (.aload_n 0, 1) := by decide +kernel
theorem E20_14 {call : jv_F} {l1 : Option Value} {a : Nat} {st : List Value} {h : jv_H} : jv_ev call 20 14 [some (.ref a), l1] st h = jv_ev call 20 15 [some (.ref a), l1] (.ref a :: st) h := je_aload_n (r := some a) D20_14 rfl rfl
theorem D20_15 : decode (jt_code 20) 15 = .ok (.getfield 82, 3) := by decide +kernel
theorem E20_15 {call : jv_F} {l0 l1 : Option Value}  {st : List Value} {m : Nat} {I : Nat → Int32} {A : Nat → Nat → Int32} {L : Nat → Nat → Int64} {rest : Nat → Option jv_C} {z : Nat × Nat} : jv_ev call 20 15 [l0, l1] (.ref m :: st) (jm_H m I A L rest z) = jv_ev call 20 18 [l0, l1] (.ref (m + 23) :: st) (jm_H m I A L rest z) := je_get D20_15 rfl (by decide) jm_g27
theorem D20_18 : decode (jt_code 20) 18 = .ok (.iload_n 1, 1) := by decide +kernel
theorem E20_18 {call : jv_F} {l0 : Option Value} {x : Int32} {st : List Value} {h : jv_H} : jv_ev call 20 18 [l0, some (.int x)] st h = jv_ev call 20 19 [l0, some (.int x)] (.int x :: st) h := je_iload_n D20_18 rfl rfl
theorem D20_19 : decode (jt_code 20) 19 = .ok (.iconst 0, 1) := by decide +kernel
theorem E20_19 {call : jv_F} {l0 l1 : Option Value}  {st : List Value} {h : jv_H} : jv_ev call 20 19 [l0, l1] st h = jv_ev call 20 20 [l0, l1] (.int (nI 0) :: st) h := je_iconst D20_19 rfl (by decide)
theorem D20_20 : decode (jt_code 20) 20 = .ok (.bastore, 1) := by decide +kernel
theorem E20_20 {call : jv_F} {l0 l1 : Option Value} {i : Nat} {v : Int32} {st : List Value} {m : Nat} {I : Nat → Int32} {A : Nat → Nat → Int32} {L : Nat → Nat → Int64} {rest : Nat → Option jv_C} {z : Nat × Nat} (hi : i < 17) (hv : narrow .boolean (.int v) = .int v) : jv_ev call 20 20 [l0, l1] (.int v :: .int (nI i) :: .ref (m + 23) :: st) (jm_H m I A L rest z) = jv_ev call 20 21 [l0, l1] st (jm_H m I (va_up A 27 (upd (A 27) i v)) L rest z) := je_bast D20_20 rfl (by rw [hv]; exact jm_s27 hi)
theorem D20_21 : decode (jt_code 20) 21 = .ok (.aload_n 0, 1) := by decide +kernel
theorem E20_21 {call : jv_F} {l1 : Option Value} {a : Nat} {st : List Value} {h : jv_H} : jv_ev call 20 21 [some (.ref a), l1] st h = jv_ev call 20 22 [some (.ref a), l1] (.ref a :: st) h := je_aload_n (r := some a) D20_21 rfl rfl
theorem D20_22 : decode (jt_code 20) 22 = .ok (.getfield 73, 3) := by decide +kernel
theorem E20_22 {call : jv_F} {l0 l1 : Option Value}  {st : List Value} {m : Nat} {I : Nat → Int32} {A : Nat → Nat → Int32} {L : Nat → Nat → Int64} {rest : Nat → Option jv_C} {z : Nat × Nat} : jv_ev call 20 22 [l0, l1] (.ref m :: st) (jm_H m I A L rest z) = jv_ev call 20 25 [l0, l1] (.ref (m + 20) :: st) (jm_H m I A L rest z) := je_get D20_22 rfl (by decide) jm_g24
theorem D20_25 : decode (jt_code 20) 25 = .ok (.iload_n 1, 1) := by decide +kernel
theorem E20_25 {call : jv_F} {l0 : Option Value} {x : Int32} {st : List Value} {h : jv_H} : jv_ev call 20 25 [l0, some (.int x)] st h = jv_ev call 20 26 [l0, some (.int x)] (.int x :: st) h := je_iload_n D20_25 rfl rfl
theorem D20_26 : decode (jt_code 20) 26 = .ok (.iconst 0, 1) := by decide +kernel
theorem E20_26 {call : jv_F} {l0 l1 : Option Value}  {st : List Value} {h : jv_H} : jv_ev call 20 26 [l0, l1] st h = jv_ev call 20 27 [l0, l1] (.int (nI 0) :: st) h := je_iconst D20_26 rfl (by decide)
theorem D20_27 : decode (jt_code 20) 27 = .ok (.iastore, 1) := by decide +kernel
theorem E20_27 {call : jv_F} {l0 l1 : Option Value} {i : Nat} {v : Int32} {st : List Value} {m : Nat} {I : Nat → Int32} {A : Nat → Nat → Int32} {L : Nat → Nat → Int64} {rest : Nat → Option jv_C} {z : Nat × Nat} (hi : i < 17) : jv_ev call 20 27 [l0, l1] (.int v :: .int (nI i) :: .ref (m + 20) :: st) (jm_H m I A L rest z) = jv_ev call 20 28 [l0, l1] st (jm_H m I (va_up A 24 (upd (A 24) i v)) L rest z) := je_iast D20_27 rfl (jm_s24 hi)
theorem D20_28 : decode (jt_code 20) 28 = .ok (.aload_n 0, 1) := by decide +kernel
theorem E20_28 {call : jv_F} {l1 : Option Value} {a : Nat} {st : List Value} {h : jv_H} : jv_ev call 20 28 [some (.ref a), l1] st h = jv_ev call 20 29 [some (.ref a), l1] (.ref a :: st) h := je_aload_n (r := some a) D20_28 rfl rfl
theorem D20_29 : decode (jt_code 20) 29 = .ok (.getfield 76, 3) := by decide +kernel
theorem E20_29 {call : jv_F} {l0 l1 : Option Value}  {st : List Value} {m : Nat} {I : Nat → Int32} {A : Nat → Nat → Int32} {L : Nat → Nat → Int64} {rest : Nat → Option jv_C} {z : Nat × Nat} : jv_ev call 20 29 [l0, l1] (.ref m :: st) (jm_H m I A L rest z) = jv_ev call 20 32 [l0, l1] (.ref (m + 21) :: st) (jm_H m I A L rest z) := je_get D20_29 rfl (by decide) jm_g25
theorem D20_32 : decode (jt_code 20) 32 = .ok (.iload_n 1, 1) := by decide +kernel
theorem E20_32 {call : jv_F} {l0 : Option Value} {x : Int32} {st : List Value} {h : jv_H} : jv_ev call 20 32 [l0, some (.int x)] st h = jv_ev call 20 33 [l0, some (.int x)] (.int x :: st) h := je_iload_n D20_32 rfl rfl
theorem D20_33 : decode (jt_code 20) 33 = .ok (.iconst 0, 1) := by decide +kernel
theorem E20_33 {call : jv_F} {l0 l1 : Option Value}  {st : List Value} {h : jv_H} : jv_ev call 20 33 [l0, l1] st h = jv_ev call 20 34 [l0, l1] (.int (nI 0) :: st) h := je_iconst D20_33 rfl (by decide)
theorem D20_34 : decode (jt_code 20) 34 = .ok (.iastore, 1) := by decide +kernel
theorem E20_34 {call : jv_F} {l0 l1 : Option Value} {i : Nat} {v : Int32} {st : List Value} {m : Nat} {I : Nat → Int32} {A : Nat → Nat → Int32} {L : Nat → Nat → Int64} {rest : Nat → Option jv_C} {z : Nat × Nat} (hi : i < 17) : jv_ev call 20 34 [l0, l1] (.int v :: .int (nI i) :: .ref (m + 21) :: st) (jm_H m I A L rest z) = jv_ev call 20 35 [l0, l1] st (jm_H m I (va_up A 25 (upd (A 25) i v)) L rest z) := je_iast D20_34 rfl (jm_s25 hi)
theorem D20_35 : decode (jt_code 20) 35 = .ok (.return_, 1) := by decide +kernel
theorem E20_35 {call : jv_F} {l0 l1 : Option Value}  {h : jv_H} : jv_ev call 20 35 [l0, l1] [] h = some (none, h) := je_ret D20_35 rfl
/-! method 21: DrumMachineModel.finish -/
theorem N21 {d : Nat} {b : Nat} {h : jv_H} : jv_run (d + 1) 21 [.ref b] h = jv_ev (jv_run d) 21 0 [some (.ref b), none] [] h := jv_run_eq (Nat.le_of_ble_eq_true rfl) rfl
theorem D21_0 : decode (jt_code 21) 0 = .ok (.aload_n 0, 1) := by decide +kernel
theorem E21_0 {call : jv_F} {l1 : Option Value} {a : Nat} {st : List Value} {h : jv_H} : jv_ev call 21 0 [some (.ref a), l1] st h = jv_ev call 21 1 [some (.ref a), l1] (.ref a :: st) h := je_aload_n (r := some a) D21_0 rfl rfl
theorem D21_1 : decode (jt_code 21) 1 = .ok (.getfield 70, 3) := by decide +kernel
theorem E21_1 {call : jv_F} {l0 l1 : Option Value}  {st : List Value} {m : Nat} {I : Nat → Int32} {A : Nat → Nat → Int32} {L : Nat → Nat → Int64} {rest : Nat → Option jv_C} {z : Nat × Nat} : jv_ev call 21 1 [l0, l1] (.ref m :: st) (jm_H m I A L rest z) = jv_ev call 21 4 [l0, l1] (.ref (m + 19) :: st) (jm_H m I A L rest z) := je_get D21_1 rfl (by decide) jm_g23
theorem D21_4 : decode (jt_code 21) 4 = .ok (.aload_n 0, 1) := by decide +kernel
theorem E21_4 {call : jv_F} {l1 : Option Value} {a : Nat} {st : List Value} {h : jv_H} : jv_ev call 21 4 [some (.ref a), l1] st h = jv_ev call 21 5 [some (.ref a), l1] (.ref a :: st) h := je_aload_n (r := some a) D21_4 rfl rfl
theorem D21_5 : decode (jt_code 21) 5 = .ok (.getfield 176, 3) := by decide +kernel
theorem E21_5 {call : jv_F} {l0 l1 : Option Value}  {st : List Value} {m : Nat} {I : Nat → Int32} {A : Nat → Nat → Int32} {L : Nat → Nat → Int64} {rest : Nat → Option jv_C} {z : Nat × Nat} : jv_ev call 21 5 [l0, l1] (.ref m :: st) (jm_H m I A L rest z) = jv_ev call 21 8 [l0, l1] (.int (I 33) :: st) (jm_H m I A L rest z) := je_get D21_5 rfl (by decide) jm_g33
theorem D21_8 : decode (jt_code 21) 8 = .ok (.iaload, 1) := by decide +kernel
theorem E21_8 {call : jv_F} {l0 l1 : Option Value} {i : Nat} {st : List Value} {m : Nat} {I : Nat → Int32} {A : Nat → Nat → Int32} {L : Nat → Nat → Int64} {rest : Nat → Option jv_C} {z : Nat × Nat} (hi : i < 17) : jv_ev call 21 8 [l0, l1] (.int (nI i) :: .ref (m + 19) :: st) (jm_H m I A L rest z) = jv_ev call 21 9 [l0, l1] (.int (A 23 i) :: st) (jm_H m I A L rest z) := je_iald D21_8 rfl (jm_l23 hi)
theorem D21_9 : decode (jt_code 21) 9 = .ok (.istore_n 1, 1) := by decide +kernel
theorem E21_9 {call : jv_F} {l0 l1 : Option Value} {x : Int32} {st : List Value} {h : jv_H} (hk : ¬ jv_is2 (some l0) = true) : jv_ev call 21 9 [l0, l1] (.int x :: st) h = jv_ev call 21 10 [l0, some (.int x)] st h := je_istore_n D21_9 rfl (Nat.le_of_ble_eq_true rfl) (by show jv_st1 _ 1 _ = _; simp only [jv_st1, jv_kill, List.getElem?_cons_succ, List.getElem?_cons_zero, hk, if_false]; rfl)
theorem D21_10 : decode (jt_code 21) 10 = .ok (.aload_n 0, 1) := by decide +kernel
theorem E21_10 {call : jv_F} {l1 : Option Value} {a : Nat} {st : List Value} {h : jv_H} : jv_ev call 21 10 [some (.ref a), l1] st h = jv_ev call 21 11 [some (.ref a), l1] (.ref a :: st) h := je_aload_n (r := some a) D21_10 rfl rfl
theorem D21_11 : decode (jt_code 21) 11 = .ok (.getfield 142, 3) := by decide +kernel
theorem E21_11 {call : jv_F} {l0 l1 : Option Value}  {st : List Value} {m : Nat} {I : Nat → Int32} {A : Nat → Nat → Int32} {L : Nat → Nat → Int64} {rest : Nat → Option jv_C} {z : Nat × Nat} : jv_ev call 21 11 [l0, l1] (.ref m :: st) (jm_H m I A L rest z) = jv_ev call 21 14 [l0, l1] (.int (I 32) :: st) (jm_H m I A L rest z) := je_get D21_11 rfl (by decide) jm_g32
theorem D21_14 : decode (jt_code 21) 14 = .ok (.iconst 2, 1) := by decide +kernel
theorem E21_14 {call : jv_F} {l0 l1 : Option Value}  {st : List Value} {h : jv_H} : jv_ev call 21 14 [l0, l1] st h = jv_ev call 21 15 [l0, l1] (.int (nI 2) :: st) h := je_iconst D21_14 rfl (by decide)
theorem D21_15 : decode (jt_code 21) 15 = .ok (.if_icmp .ne 41, 3) := by decide +kernel
theorem E21_15 {call : jv_F} {l0 l1 : Option Value} {x y : Int32} {st : List Value} {h : jv_H} : jv_ev call 21 15 [l0, l1] (.int y :: .int x :: st) h = if ¬ x = y then jv_ev call 21 56 [l0, l1] st h else jv_ev call 21 18 [l0, l1] st h := je_icmp D21_15 (by decide) rfl rfl
theorem D21_18 : decode (jt_code 21) 18 = .ok (.aload_n 0, 1) := by decide +kernel
theorem E21_18 {call : jv_F} {l1 : Option Value} {a : Nat} {st : List Value} {h : jv_H} : jv_ev call 21 18 [some (.ref a), l1] st h = jv_ev call 21 19 [some (.ref a), l1] (.ref a :: st) h := je_aload_n (r := some a) D21_18 rfl rfl
theorem D21_19 : decode (jt_code 21) 19 = .ok (.aload_n 0, 1) := by decide +kernel
theorem E21_19 {call : jv_F} {l1 : Option Value} {a : Nat} {st : List Value} {h : jv_H} : jv_ev call 21 19 [some (.ref a), l1] st h = jv_ev call 21 20 [some (.ref a), l1] (.ref a :: st) h := je_aload_n (r := some a) D21_19 rfl rfl
theorem D21_20 : decode (jt_code 21) 20 = .ok (.getfield 176, 3) := by decide +kernel
theorem E21_20 {call : jv_F} {l0 l1 : Option Value}  {st : List Value} {m : Nat} {I : Nat → Int32} {A : Nat → Nat → Int32} {L : Nat → Nat → Int64} {rest : Nat → Option jv_C} {z : Nat × Nat} : jv_ev call 21 20 [l0, l1] (.ref m :: st) (jm_H m I A L rest z) = jv_ev call 21 23 [l0, l1] (.int (I 33) :: st) (jm_H m I A L rest z) := je_get D21_20 rfl (by decide) jm_g33
theorem D21_23 : decode (jt_code 21) 23 = .ok (.invokevirtual 179, 3) := by decide +kernel
theorem E21_23 {call : jv_F} {l0 l1 : Option Value} {v0 : Value}  {st : List Value} {m : Nat} {I : Nat → Int32} {A : Nat → Nat → Int32} {L : Nat → Nat → Int64} {rest : Nat → Option jv_C} {z : Nat × Nat} (hw : jv_wide st = true) (hc : (call 20 [.ref m, v0] (jm_H m I A L rest z)).isSome = true) : jv_ev call 21 23 [l0, l1] (v0 :: .ref m :: st) (jm_H m I A L rest z) = jv_ev call 21 26 [l0, l1] ((((call 20 [.ref m, v0] (jm_H m I A L rest z)).getD (none, (jm_H m I A L rest z))).1).toList ++ st) ((call 20 [.ref m, v0] (jm_H m I A L rest z)).getD (none, (jm_H m I A L rest z))).2 := by
  obtain ⟨⟨r, h'⟩, hv⟩ := Option.isSome_iff_exists.mp hc
  rw [hv]
  exact je_virt (y := 20) (as := [v0]) D21_23 rfl (by decide) (by decide) rfl jm_cl hw hv
theorem D21_26 : decode (jt_code 21) 26 = .ok (.aload_n 0, 1) := by decide +kernel
theorem E21_26 {call : jv_F} {l1 : Option Value} {a : Nat} {st : List Value} {h : jv_H} : jv_ev call 21 26 [some (.ref a), l1] st h = jv_ev call 21 27 [some (.ref a), l1] (.ref a :: st) h := je_aload_n (r := some a) D21_26 rfl rfl
theorem D21_27 : decode (jt_code 21) 27 = .ok (.getfield 27, 3) := by decide +kernel
theorem E21_27 {call : jv_F} {l0 l1 : Option Value}  {st : List Value} {m : Nat} {I : Nat → Int32} {A : Nat → Nat → Int32} {L : Nat → Nat → Int64} {rest : Nat → Option jv_C} {z : Nat × Nat} : jv_ev call 21 27 [l0, l1] (.ref m :: st) (jm_H m I A L rest z) = jv_ev call 21 30 [l0, l1] (.ref (m + 5) :: st) (jm_H m I A L rest z) := je_get D21_27 rfl (by decide) jm_g8
theorem D21_30 : decode (jt_code 21) 30 = .ok (.iload_n 1, 1) := by decide +kernel
theorem E21_30 {call : jv_F} {l0 : Option Value} {x : Int32} {st : List Value} {h : jv_H} : jv_ev call 21 30 [l0, some (.int x)] st h = jv_ev call 21 31 [l0, some (.int x)] (.int x :: st) h := je_iload_n D21_30 rfl rfl
theorem D21_31 : decode (jt_code 21) 31 = .ok (.bipush 64, 2) := by decide +kernel
theorem E21_31 {call : jv_F} {l0 l1 : Option Value}  {st : List Value} {h : jv_H} : jv_ev call 21 31 [l0, l1] st h = jv_ev call 21 33 [l0, l1] (.int (nI 64) :: st) h := je_bipush D21_31 rfl (by decide)
theorem D21_33 : decode (jt_code 21) 33 = .ok (.idiv, 1) := by decide +kernel
theorem E21_33 {call : jv_F} {l0 l1 : Option Value} {x y : Int32} {st : List Value} {h : jv_H} (hy : ¬ y = 0) : jv_ev call 21 33 [l0, l1] (.int y :: .int x :: st) h = jv_ev call 21 34 [l0, l1] (.int (x / y) :: st) h := je_idiv D21_33 rfl hy
theorem D21_34 : decode (jt_code 21) 34 = .ok (.iaload, 1) := by decide +kernel
theorem E21_34 {call : jv_F} {l0 l1 : Option Value} {i : Nat} {st : List Value} {m : Nat} {I : Nat → Int32} {A : Nat → Nat → Int32} {L : Nat → Nat → Int64} {rest : Nat → Option jv_C} {z : Nat × Nat} (hi : i < 12) : jv_ev call 21 34 [l0, l1] (.int (nI i) :: .ref (m + 5) :: st) (jm_H m I A L rest z) = jv_ev call 21 35 [l0, l1] (.int (A 8 i) :: st) (jm_H m I A L rest z) := je_iald D21_34 rfl (jm_l8 hi)
theorem D21_35 : decode (jt_code 21) 35 = .ok (.ifCond .eq 84, 3) := by decide +kernel
theorem E21_35 {call : jv_F} {l0 l1 : Option Value} {x : Int32} {st : List Value} {h : jv_H} : jv_ev call 21 35 [l0, l1] (.int x :: st) h = if x = 0 then jv_ev call 21 119 [l0, l1] st h else jv_ev call 21 38 [l0, l1] st h := je_ifc D21_35 (by decide) rfl rfl
theorem D21_38 : decode (jt_code 21) 38 = .ok (.aload_n 0, 1) := by decide +kernel
theorem E21_38 {call : jv_F} {l1 : Option Value} {a : Nat} {st : List Value} {h : jv_H} : jv_ev call 21 38 [some (.ref a), l1] st h = jv_ev call 21 39 [some (.ref a), l1] (.ref a :: st) h := je_aload_n (r := some a) D21_38 rfl rfl
theorem D21_39 : decode (jt_code 21) 39 = .ok (.getfield 85, 3) := by decide +kernel
theorem E21_39 {call : jv_F} {l0 l1 : Option Value}  {st : List Value} {m : Nat} {I : Nat → Int32} {A : Nat → Nat → Int32} {L : Nat → Nat → Int64} {rest : Nat → Option jv_C} {z : Nat × Nat} : jv_ev call 21 39 [l0, l1] (.ref m :: st) (jm_H m I A L rest z) = jv_ev call 21 42 [l0, l1] (.ref (m + 24) :: st) (jm_H m I A L rest z) := je_get D21_39 rfl (by decide) jm_g28
theorem D21_42 : decode (jt_code 21) 42 = .ok (.aload_n 0, 1) := by decide +kernel
theorem E21_42 {call : jv_F} {l1 : Option Value} {a : Nat} {st : List Value} {h : jv_H} : jv_ev call 21 42 [some (.ref a), l1] st h = jv_ev call 21 43 [some (.ref a), l1] (.ref a :: st) h := je_aload_n (r := some a) D21_42 rfl rfl
theorem D21_43 : decode (jt_code 21) 43 = .ok (.getfield 182, 3) := by decide +kernel
theorem E21_43 {call : jv_F} {l0 l1 : Option Value}  {st : List Value} {m : Nat} {I : Nat → Int32} {A : Nat → Nat → Int32} {L : Nat → Nat → Int64} {rest : Nat → Option jv_C} {z : Nat × Nat} : jv_ev call 21 43 [l0, l1] (.ref m :: st) (jm_H m I A L rest z) = jv_ev call 21 46 [l0, l1] (.int (I 34) :: st) (jm_H m I A L rest z) := je_get D21_43 rfl (by decide) jm_g34
theorem D21_46 : decode (jt_code 21) 46 = .ok (.iconst (-1), 1) := by decide +kernel
theorem E21_46 {call : jv_F} {l0 l1 : Option Value}  {st : List Value} {h : jv_H} : jv_ev call 21 46 [l0, l1] st h = jv_ev call 21 47 [l0, l1] (.int (-1) :: st) h := je_iconst D21_46 rfl (by decide)
theorem D21_47 : decode (jt_code 21) 47 = .ok (.iastore, 1) := by decide +kernel
theorem E21_47 {call : jv_F} {l0 l1 : Option Value} {i : Nat} {v : Int32} {st : List Value} {m : Nat} {I : Nat → Int32} {A : Nat → Nat → Int32} {L : Nat → Nat → Int64} {rest : Nat → Option jv_C} {z : Nat × Nat} (hi : i < 64) : jv_ev call 21 47 [l0, l1] (.int v :: .int (nI i) :: .ref (m + 24) :: st) (jm_H m I A L rest z) = jv_ev call 21 48 [l0, l1] st (jm_H m I (va_up A 28 (upd (A 28) i v)) L rest z) := je_iast D21_47 rfl (jm_s28 hi)
theorem D21_48 : decode (jt_code 21) 48 = .ok (.aload_n 0, 1) := by decide +kernel
theorem E21_48 {call : jv_F} {l1 : Option Value} {a : Nat} {st : List Value} {h : jv_H} : jv_ev call 21 48 [some (.ref a), l1] st h = jv_ev call 21 49 [some (.ref a), l1] (.ref a :: st) h := je_aload_n (r := some a) D21_48 rfl rfl
theorem D21_49 : decode (jt_code 21) 49 = .ok (.iload_n 1, 1) := by decide +kernel
theorem E21_49 {call : jv_F} {l0 : Option Value} {x : Int32} {st : List Value} {h : jv_H} : jv_ev call 21 49 [l0, some (.int x)] st h = jv_ev call 21 50 [l0, some (.int x)] (.int x :: st) h := je_iload_n D21_49 rfl rfl
theorem D21_50 : decode (jt_code 21) 50 = .ok (.invokevirtual 185, 3) := by decide +kernel
theorem E21_50 {call : jv_F} {l0 l1 : Option Value} {v0 : Value}  {st : List Value} {m : Nat} {I : Nat → Int32} {A : Nat → Nat → Int32} {L : Nat → Nat → Int64} {rest : Nat → Option jv_C} {z : Nat × Nat} (hw : jv_wide st = true) (hc : (call 22 [.ref m, v0] (jm_H m I A L rest z)).isSome = true) : jv_ev call 21 50 [l0, l1] (v0 :: .ref m :: st) (jm_H m I A L rest z) = jv_ev call 21 53 [l0, l1] ((((call 22 [.ref m, v0] (jm_H m I A L rest z)).getD (none, (jm_H m I A L rest z))).1).toList ++ st) ((call 22 [.ref m, v0] (jm_H m I A L rest z)).getD (none, (jm_H m I A L rest z))).2 := by
  obtain ⟨⟨r, h'⟩, hv⟩ := Option.isSome_iff_exists.mp hc
  rw [hv]
  exact je_virt (y := 22) (as := [v0]) D21_50 rfl (by decide) (by decide) rfl jm_cl hw hv
theorem D21_53 : decode (jt_code 21) 53 = .ok (.goto 66, 3) := by decide +kernel
theorem E21_53 {call : jv_F} {l0 l1 : Option Value}  {st : List Value} {h : jv_H} : jv_ev call 21 53 [l0, l1] st h = jv_ev call 21 119 [l0, l1] st h := je_goto D21_53 (by decide)
theorem D21_56 : decode (jt_code 21) 56 = .ok (.aload_n 0, 1) := by decide +kernel
theorem E21_56 {call : jv_F} {l1 : Option Value} {a : Nat} {st : List Value} {h : jv_H} : jv_ev call 21 56 [some (.ref a), l1] st h = jv_ev call 21 57 [some (.ref a), l1] (.ref a :: st) h := je_aload_n (r := some a) D21_56 rfl rfl
theorem D21_57 : decode (jt_code 21) 57 = .ok (.getfield 79, 3) := by decide +kernel
theorem E21_57 {call : jv_F} {l0 l1 : Option Value}  {st : List Value} {m : Nat} {I : Nat → Int32} {A : Nat → Nat → Int32} {L : Nat → Nat → Int64} {rest : Nat → Option jv_C} {z : Nat × Nat} : jv_ev call 21 57 [l0, l1] (.ref m :: st) (jm_H m I A L rest z) = jv_ev call 21 60 [l0, l1] (.ref (m + 22) :: st) (jm_H m I A L rest z) := je_get D21_57 rfl (by decide) jm_g26
theorem D21_60 : decode (jt_code 21) 60 = .ok (.aload_n 0, 1) := by decide +kernel
theorem E21_60 {call : jv_F} {l1 : Option Value} {a : Nat} {st : List Value} {h : jv_H} : jv_ev call 21 60 [some (.ref a), l1] st h = jv_ev call 21 61 [some (.ref a), l1] (.ref a :: st) h := je_aload_n (r := some a) D21_60 rfl rfl
theorem D21_61 : decode (jt_code 21) 61 = .ok (.getfield 176, 3) := by decide +kernel
theorem E21_61 {call : jv_F} {l0 l1 : Option Value}  {st : List Value} {m : Nat} {I : Nat → Int32} {A : Nat → Nat → Int32} {L : Nat → Nat → Int64} {rest : Nat → Option jv_C} {z : Nat × Nat} : jv_ev call 21 61 [l0, l1] (.ref m :: st) (jm_H m I A L rest z) = jv_ev call 21 64 [l0, l1] (.int (I 33) :: st) (jm_H m I A L rest z) := je_get D21_61 rfl (by decide) jm_g33
theorem D21_64 : decode (jt_code 21) 64 = .ok (.iconst 0, 1) := by decide +kernel
theorem E21_64 {call : jv_F} {l0 l1 : Option Value}  {st : List Value} {h : jv_H} : jv_ev call 21 64 [l0, l1] st h = jv_ev call 21 65 [l0, l1] (.int (nI 0) :: st) h := je_iconst D21_64 rfl (by decide)
theorem D21_65 : decode (jt_code 21) 65 = .ok (.bastore, 1) := by decide +kernel
theorem E21_65 {call : jv_F} {l0 l1 : Option Value} {i : Nat} {v : Int32} {st : List Value} {m : Nat} {I : Nat → Int32} {A : Nat → Nat → Int32} {L : Nat → Nat → Int64} {rest : Nat → Option jv_C} {z : Nat × Nat} (hi : i < 17) (hv : narrow .boolean (.int v) = .int v) : jv_ev call 21 65 [l0, l1] (.int v :: .int (nI i) :: .ref (m + 22) :: st) (jm_H m I A L rest z) = jv_ev call 21 66 [l0, l1] st (jm_H m I (va_up A 26 (upd (A 26) i v)) L rest z) := je_bast D21_65 rfl (by rw [hv]; exact jm_s26 hi)
theorem D21_66 : decode (jt_code 21) 66 = .ok (.aload_n 0, 1) := by decide +kernel
theorem E21_66 {call : jv_F} {l1 : Option Value} {a : Nat} {st : List Value} {h : jv_H} : jv_ev call 21 66 [some (.ref a), l1] st h = jv_ev call 21 67 [some (.ref a), l1] (.ref a :: st) h := je_aload_n (r := some a) D21_66 rfl rfl
theorem D21_67 : decode (jt_code 21) 67 = .ok (.getfield 82, 3) := by decide +kernel
theorem E21_67 {call : jv_F} {l0 l1 : Option Value}  {st : List Value} {m : Nat} {I : Nat → Int32} {A : Nat → Nat → Int32} {L : Nat → Nat → Int64} {rest : Nat → Option jv_C} {z : Nat × Nat} : jv_ev call 21 67 [l0, l1] (.ref m :: st) (jm_H m I A L rest z) = jv_ev call 21 70 [l0, l1] (.ref (m + 23) :: st) (jm_H m I A L rest z) := je_get D21_67 rfl (by decide) jm_g27
theorem D21_70 : decode (jt_code 21) 70 = .ok (.aload_n 0, 1) := by decide +kernel
theorem E21_70 {call : jv_F} {l1 : Option Value} {a : Nat} {st : List Value} {h : jv_H} : jv_ev call 21 70 [some (.ref a), l1] st h = jv_ev call 21 71 [some (.ref a), l1] (.ref a :: st) h := je_aload_n (r := some a) D21_70 rfl rfl
theorem D21_71 : decode (jt_code 21) 71 = .ok (.getfield 176, 3) := by decide +kernel
theorem E21_71 {call : jv_F} {l0 l1 : Option Value}  {st : List Value} {m : Nat} {I : Nat → Int32} {A : Nat → Nat → Int32} {L : Nat → Nat → Int64} {rest : Nat → Option jv_C} {z : Nat × Nat} : jv_ev call 21 71 [l0, l1] (.ref m :: st) (jm_H m I A L rest z) = jv_ev call 21 74 [l0, l1] (.int (I 33) :: st) (jm_H m I A L rest z) := je_get D21_71 rfl (by decide) jm_g33
theorem D21_74 : decode (jt_code 21) 74 = .ok (.iconst 0, 1) := by decide +kernel
theorem E21_74 {call : jv_F} {l0 l1 : Option Value}  {st : List Value} {h : jv_H} : jv_ev call 21 74 [l0, l1] st h = jv_ev call 21 75 [l0, l1] (.int (nI 0) :: st) h := je_iconst D21_74 rfl (by decide)
theorem D21_75 : decode (jt_code 21) 75 = .ok (.bastore, 1) := by decide +kernel
theorem E21_75 {call : jv_F} {l0 l1 : Option Value} {i : Nat} {v : Int32} {st : List Value} {m : Nat} {I : Nat → Int32} {A : Nat → Nat → Int32} {L : Nat → Nat → Int64} {rest : Nat → Option jv_C} {z : Nat × Nat} (hi : i < 17) (hv : narrow .boolean (.int v) = .int v) : jv_ev call 21 75 [l0, l1] (.int v :: .int (nI i) :: .ref (m + 23) :: st) (jm_H m I A L rest z) = jv_ev call 21 76 [l0, l1] st (jm_H m I (va_up A 27 (upd (A 27) i v)) L rest z) := je_bast D21_75 rfl (by rw [hv]; exact jm_s27 hi)
theorem D21_76 : decode (jt_code 21) 76 = .ok (.aload_n 0, 1) := by decide +kernel
theorem E21_76 {call : jv_F} {l1 : Option Value} {a : Nat} {st : List Value} {h : jv_H} : jv_ev call 21 76 [some (.ref a), l1] st h = jv_ev call 21 77 [some (.ref a), l1] (.ref a :: st) h := je_aload_n (r := some a) D21_76 rfl rfl
theorem D21_77 : decode (jt_code 21) 77 = .ok (.getfield 73, 3) := by decide +kernel
theorem E21_77 {call : jv_F} {l0 l1 : Option Value}  {st : List Value} {m : Nat} {I : Nat → Int32} {A : Nat → Nat → Int32} {L : Nat → Nat → Int64} {rest : Nat → Option jv_C} {z : Nat × Nat} : jv_ev call 21 77 [l0, l1] (.ref m :: st) (jm_H m I A L rest z) = jv_ev call 21 80 [l0, l1] (.ref (m + 20) :: st) (jm_H m I A L rest z) := je_get D21_77 rfl (by decide) jm_g24
theorem D21_80 : decode (jt_code 21) 80 = .ok (.aload_n 0, 1) := by decide +kernel
theorem E21_80 {call : jv_F} {l1 : Option Value} {a : Nat} {st : List Value} {h : jv_H} : jv_ev call 21 80 [some (.ref a), l1] st h = jv_ev call 21 81 [some (.ref a), l1] (.ref a :: st) h := je_aload_n (r := some a) D21_80 rfl rfl
theorem D21_81 : decode (jt_code 21) 81 = .ok (.getfield 176, 3) := by decide +kernel
theorem E21_81 {call : jv_F} {l0 l1 : Option Value}  {st : List Value} {m : Nat} {I : Nat → Int32} {A : Nat → Nat → Int32} {L : Nat → Nat → Int64} {rest : Nat → Option jv_C} {z : Nat × Nat} : jv_ev call 21 81 [l0, l1] (.ref m :: st) (jm_H m I A L rest z) = jv_ev call 21 84 [l0, l1] (.int (I 33) :: st) (jm_H m I A L rest z) := je_get D21_81 rfl (by decide) jm_g33
theorem D21_84 : decode (jt_code 21) 84 = .ok (.iconst 0, 1) := by decide +kernel
theorem E21_84 {call : jv_F} {l0 l1 : Option Value}  {st : List Value} {h : jv_H} : jv_ev call 21 84 [l0, l1] st h = jv_ev call 21 85 [l0, l1] (.int (nI 0) :: st) h := je_iconst D21_84 rfl (by decide)
theorem D21_85 : decode (jt_code 21) 85 = .ok (.iastore, 1) := by decide +kernel
theorem E21_85 {call : jv_F} {l0 l1 : Option Value} {i : Nat} {v : Int32} {st : List Value} {m : Nat} {I : Nat → Int32} {A : Nat → Nat → Int32} {L : Nat → Nat → Int64} {rest : Nat → Option jv_C} {z : Nat × Nat} (hi : i < 17) : jv_ev call 21 85 [l0, l1] (.int v :: .int (nI i) :: .ref (m + 20) :: st) (jm_H m I A L rest z) = jv_ev call 21 86 [l0, l1] st (jm_H m I (va_up A 24 (upd (A 24) i v)) L rest z) := je_iast D21_85 rfl (jm_s24 hi)
theorem D21_86 : decode (jt_code 21) 86 = .ok (.aload_n 0, 1) := by decide +kernel
theorem E21_86 {call : jv_F} {l1 : Option Value} {a : Nat} {st : List Value} {h : jv_H} : jv_ev call 21 86 [some (.ref a), l1] st h = jv_ev call 21 87 [some (.ref a), l1] (.ref a :: st) h := je_aload_n (r := some a) D21_86 rfl rfl
theorem D21_87 : decode (jt_code 21) 87 = .ok (.getfield 76, 3) := by decide +kernel
theorem E21_87 {call : jv_F} {l0 l1 : Option Value}  {st : List Value} {m : Nat} {I : Nat → Int32} {A : Nat → Nat → Int32} {L : Nat → Nat → Int64} {rest : Nat → Option jv_C} {z : Nat × Nat} : jv_ev call 21 87 [l0, l1] (.ref m :: st) (jm_H m I A L rest z) = jv_ev call 21 90 [l0, l1] (.ref (m + 21) :: st) (jm_H m I A L rest z) := je_get D21_87 rfl (by decide) jm_g25
theorem D21_90 : decode (jt_code 21) 90 = .ok (.aload_n 0, 1) := by decide +kernel
theorem E21_90 {call : jv_F} {l1 : Option Value} {a : Nat} {st : List Value} {h : jv_H} : jv_ev call 21 90 [some (.ref a), l1] st h = jv_ev call 21 91 [some (.ref a), l1] (.ref a :: st) h := je_aload_n (r := some a) D21_90 rfl rfl
theorem D21_91 : decode (jt_code 21) 91 = .ok (.getfield 176, 3) := by decide +kernel
theorem E21_91 {call : jv_F} {l0 l1 : Option Value}  {st : List Value} {m : Nat} {I : Nat → Int32} {A : Nat → Nat → Int32} {L : Nat → Nat → Int64} {rest : Nat → Option jv_C} {z : Nat × Nat} : jv_ev call 21 91 [l0, l1] (.ref m :: st) (jm_H m I A L rest z) = jv_ev call 21 94 [l0, l1] (.int (I 33) :: st) (jm_H m I A L rest z) := je_get D21_91 rfl (by decide) jm_g33
theorem D21_94 : decode (jt_code 21) 94 = .ok (.aload_n 0, 1) := by decide +kernel
theorem E21_94 {call : jv_F} {l1 : Option Value} {a : Nat} {st : List Value} {h : jv_H} : jv_ev call 21 94 [some (.ref a), l1] st h = jv_ev call 21 95 [some (.ref a), l1] (.ref a :: st) h := je_aload_n (r := some a) D21_94 rfl rfl
theorem D21_95 : decode (jt_code 21) 95 = .ok (.getfield 67, 3) := by decide +kernel
theorem E21_95 {call : jv_F} {l0 l1 : Option Value}  {st : List Value} {m : Nat} {I : Nat → Int32} {A : Nat → Nat → Int32} {L : Nat → Nat → Int64} {rest : Nat → Option jv_C} {z : Nat × Nat} : jv_ev call 21 95 [l0, l1] (.ref m :: st) (jm_H m I A L rest z) = jv_ev call 21 98 [l0, l1] (.ref (m + 18) :: st) (jm_H m I A L rest z) := je_get D21_95 rfl (by decide) jm_g21
theorem D21_98 : decode (jt_code 21) 98 = .ok (.iload_n 1, 1) := by decide +kernel
theorem E21_98 {call : jv_F} {l0 : Option Value} {x : Int32} {st : List Value} {h : jv_H} : jv_ev call 21 98 [l0, some (.int x)] st h = jv_ev call 21 99 [l0, some (.int x)] (.int x :: st) h := je_iload_n D21_98 rfl rfl
theorem D21_99 : decode (jt_code 21) 99 = .ok (.iaload, 1) := by decide +kernel
theorem E21_99 {call : jv_F} {l0 l1 : Option Value} {i : Nat} {st : List Value} {m : Nat} {I : Nat → Int32} {A : Nat → Nat → Int32} {L : Nat → Nat → Int64} {rest : Nat → Option jv_C} {z : Nat × Nat} (hi : i < 768) : jv_ev call 21 99 [l0, l1] (.int (nI i) :: .ref (m + 18) :: st) (jm_H m I A L rest z) = jv_ev call 21 100 [l0, l1] (.int (A 21 i) :: st) (jm_H m I A L rest z) := je_iald D21_99 rfl (jm_l21 hi)
theorem D21_100 : decode (jt_code 21) 100 = .ok (.ifCond .ge 7, 3) := by decide +kernel
theorem E21_100 {call : jv_F} {l0 l1 : Option Value} {x : Int32} {st : List Value} {h : jv_H} : jv_ev call 21 100 [l0, l1] (.int x :: st) h = if 0 ≤ x then jv_ev call 21 107 [l0, l1] st h else jv_ev call 21 103 [l0, l1] st h := je_ifc D21_100 (by decide) rfl rfl
theorem D21_103 : decode (jt_code 21) 103 = .ok (.iconst 0, 1) := by decide +kernel
theorem E21_103 {call : jv_F} {l0 l1 : Option Value}  {st : List Value} {h : jv_H} : jv_ev call 21 103 [l0, l1] st h = jv_ev call 21 104 [l0, l1] (.int (nI 0) :: st) h := je_iconst D21_103 rfl (by decide)
theorem D21_104 : decode (jt_code 21) 104 = .ok (.goto 14, 3) := by decide +kernel
theorem E21_104 {call : jv_F} {l0 l1 : Option Value}  {st : List Value} {h : jv_H} : jv_ev call 21 104 [l0, l1] st h = jv_ev call 21 118 [l0, l1] st h := je_goto D21_104 (by decide)
theorem D21_107 : decode (jt_code 21) 107 = .ok (.aload_n 0, 1) := by decide +kernel
theorem E21_107 {call : jv_F} {l1 : Option Value} {a : Nat} {st : List Value} {h : jv_H} : jv_ev call 21 107 [some (.ref a), l1] st h = jv_ev call 21 108 [some (.ref a), l1] (.ref a :: st) h := je_aload_n (r := some a) D21_107 rfl rfl
theorem D21_108 : decode (jt_code 21) 108 = .ok (.getfield 188, 3) := by decide +kernel
theorem E21_108 {call : jv_F} {l0 l1 : Option Value}  {st : List Value} {m : Nat} {I : Nat → Int32} {A : Nat → Nat → Int32} {L : Nat → Nat → Int64} {rest : Nat → Option jv_C} {z : Nat × Nat} : jv_ev call 21 108 [l0, l1] (.ref m :: st) (jm_H m I A L rest z) = jv_ev call 21 111 [l0, l1] (.int (I 42) :: st) (jm_H m I A L rest z) := je_get D21_108 rfl (by decide) jm_g42
theorem D21_111 : decode (jt_code 21) 111 = .ok (.aload_n 0, 1) := by decide +kernel
theorem E21_111 {call : jv_F} {l1 : Option Value} {a : Nat} {st : List Value} {h : jv_H} : jv_ev call 21 111 [some (.ref a), l1] st h = jv_ev call 21 112 [some (.ref a), l1] (.ref a :: st) h := je_aload_n (r := some a) D21_111 rfl rfl
theorem D21_112 : decode (jt_code 21) 112 = .ok (.getfield 67, 3) := by decide +kernel
theorem E21_112 {call : jv_F} {l0 l1 : Option Value}  {st : List Value} {m : Nat} {I : Nat → Int32} {A : Nat → Nat → Int32} {L : Nat → Nat → Int64} {rest : Nat → Option jv_C} {z : Nat × Nat} : jv_ev call 21 112 [l0, l1] (.ref m :: st) (jm_H m I A L rest z) = jv_ev call 21 115 [l0, l1] (.ref (m + 18) :: st) (jm_H m I A L rest z) := je_get D21_112 rfl (by decide) jm_g21
theorem D21_115 : decode (jt_code 21) 115 = .ok (.iload_n 1, 1) := by decide +kernel
theorem E21_115 {call : jv_F} {l0 : Option Value} {x : Int32} {st : List Value} {h : jv_H} : jv_ev call 21 115 [l0, some (.int x)] st h = jv_ev call 21 116 [l0, some (.int x)] (.int x :: st) h := je_iload_n D21_115 rfl rfl
theorem D21_116 : decode (jt_code 21) 116 = .ok (.iaload, 1) := by decide +kernel
theorem E21_116 {call : jv_F} {l0 l1 : Option Value} {i : Nat} {st : List Value} {m : Nat} {I : Nat → Int32} {A : Nat → Nat → Int32} {L : Nat → Nat → Int64} {rest : Nat → Option jv_C} {z : Nat × Nat} (hi : i < 768) : jv_ev call 21 116 [l0, l1] (.int (nI i) :: .ref (m + 18) :: st) (jm_H m I A L rest z) = jv_ev call 21 117 [l0, l1] (.int (A 21 i) :: st) (jm_H m I A L rest z) := je_iald D21_116 rfl (jm_l21 hi)
theorem D21_117 : decode (jt_code 21) 117 = .ok (.isub, 1) := by decide +kernel
theorem E21_117 {call : jv_F} {l0 l1 : Option Value} {x y : Int32} {st : List Value} {h : jv_H} : jv_ev call 21 117 [l0, l1] (.int y :: .int x :: st) h = jv_ev call 21 118 [l0, l1] (.int (x - y) :: st) h := je_b2 (f := fun x y => x - y) D21_117 rfl (fun _ => rfl)
theorem D21_118 : decode (jt_code 21) 118 = .ok (.iastore, 1) := by decide +kernel
theorem E21_118 {call : jv_F} {l0 l1 : Option Value} {i : Nat} {v : Int32} {st : List Value} {m : Nat} {I : Nat → Int32} {A : Nat → Nat → Int32} {L : Nat → Nat → Int64} {rest : Nat → Option jv_C} {z : Nat × Nat} (hi : i < 17) : jv_ev call 21 118 [l0, l1] (.int v :: .int (nI i) :: .ref (m + 21) :: st) (jm_H m I A L rest z) = jv_ev call 21 119 [l0, l1] st (jm_H m I (va_up A 25 (upd (A 25) i v)) L rest z) := je_iast D21_118 rfl (jm_s25 hi)
theorem D21_119 : decode (jt_code 21) 119 = .ok (.aload_n 0, 1) := by decide +kernel
theorem E21_119 {call : jv_F} {l1 : Option Value} {a : Nat} {st : List Value} {h : jv_H} : jv_ev call 21 119 [some (.ref a), l1] st h = jv_ev call 21 120 [some (.ref a), l1] (.ref a :: st) h := je_aload_n (r := some a) D21_119 rfl rfl
theorem D21_120 : decode (jt_code 21) 120 = .ok (.iconst 0, 1) := by decide +kernel
theorem E21_120 {call : jv_F} {l0 l1 : Option Value}  {st : List Value} {h : jv_H} : jv_ev call 21 120 [l0, l1] st h = jv_ev call 21 121 [l0, l1] (.int (nI 0) :: st) h := je_iconst D21_120 rfl (by decide)
theorem D21_121 : decode (jt_code 21) 121 = .ok (.putfield 142, 3) := by decide +kernel
theorem E21_121 {call : jv_F} {l0 l1 : Option Value} {v : Int32} {st : List Value} {m : Nat} {I : Nat → Int32} {A : Nat → Nat → Int32} {L : Nat → Nat → Int64} {rest : Nat → Option jv_C} {z : Nat × Nat} : jv_ev call 21 121 [l0, l1] (.int v :: .ref m :: st) (jm_H m I A L rest z) = jv_ev call 21 124 [l0, l1] st (jm_H m (upd I 32 v) A L rest z) := je_put D21_121 rfl (by decide) (by decide) jm_p32
theorem D21_124 : decode (jt_code 21) 124 = .ok (.return_, 1) := by decide +kernel
theorem E21_124 {call : jv_F} {l0 l1 : Option Value}  {h : jv_H} : jv_ev call 21 124 [l0, l1] [] h = some (none, h) := je_ret D21_124 rfl
/-! method 22: DrumMachineModel.vanish -/
theorem N22 {d : Nat} {b : Nat} {a0 : Int32} {h : jv_H} : jv_run (d + 1) 22 [.ref b, .int a0] h = jv_ev (jv_run d) 22 0 [some (.ref b), some (.int a0)] [] h := jv_run_eq (Nat.le_of_ble_eq_true rfl) rfl
theorem D22_0 : decode (jt_code 22) 0 = .ok (.aload_n 0, 1) := by decide +kernel
theorem E22_0 {call : jv_F} {l1 : Option Value} {a : Nat} {st : List Value} {h : jv_H} : jv_ev call 22 0 [some (.ref a), l1] st h = jv_ev call 22 1 [some (.ref a), l1] (.ref a :: st) h := je_aload_n (r := some a) D22_0 rfl rfl
theorem D22_1 : decode (jt_code 22) 1 = .ok (.getfield 63, 3) := by decide +kernel
theorem E22_1 {call : jv_F} {l0 l1 : Option Value}  {st : List Value} {m : Nat} {I : Nat → Int32} {A : Nat → Nat → Int32} {L : Nat → Nat → Int64} {rest : Nat → Option jv_C} {z : Nat × Nat} : jv_ev call 22 1 [l0, l1] (.ref m :: st) (jm_H m I A L rest z) = jv_ev call 22 4 [l0, l1] (.ref (m + 17) :: st) (jm_H m I A L rest z) := je_get D22_1 rfl (by decide) jm_g20
theorem D22_4 : decode (jt_code 22) 4 = .ok (.iload_n 1, 1) := by decide +kernel
theorem E22_4 {call : jv_F} {l0 : Option Value} {x : Int32} {st : List Value} {h : jv_H} : jv_ev call 22 4 [l0, some (.int x)] st h = jv_ev call 22 5 [l0, some (.int x)] (.int x :: st) h := je_iload_n D22_4 rfl rfl
theorem D22_5 : decode (jt_code 22) 5 = .ok (.iconst 0, 1) := by decide +kernel
theorem E22_5 {call : jv_F} {l0 l1 : Option Value}  {st : List Value} {h : jv_H} : jv_ev call 22 5 [l0, l1] st h = jv_ev call 22 6 [l0, l1] (.int (nI 0) :: st) h := je_iconst D22_5 rfl (by decide)
theorem D22_6 : decode (jt_code 22) 6 = .ok (.bastore, 1) := by decide +kernel
theorem E22_6 {call : jv_F} {l0 l1 : Option Value} {i : Nat} {v : Int32} {st : List Value} {m : Nat} {I : Nat → Int32} {A : Nat → Nat → Int32} {L : Nat → Nat → Int64} {rest : Nat → Option jv_C} {z : Nat × Nat} (hi : i < 768) (hv : narrow .boolean (.int v) = .int v) : jv_ev call 22 6 [l0, l1] (.int v :: .int (nI i) :: .ref (m + 17) :: st) (jm_H m I A L rest z) = jv_ev call 22 7 [l0, l1] st (jm_H m I (va_up A 20 (upd (A 20) i v)) L rest z) := je_bast D22_6 rfl (by rw [hv]; exact jm_s20 hi)
theorem D22_7 : decode (jt_code 22) 7 = .ok (.aload_n 0, 1) := by decide +kernel
theorem E22_7 {call : jv_F} {l1 : Option Value} {a : Nat} {st : List Value} {h : jv_H} : jv_ev call 22 7 [some (.ref a), l1] st h = jv_ev call 22 8 [some (.ref a), l1] (.ref a :: st) h := je_aload_n (r := some a) D22_7 rfl rfl
theorem D22_8 : decode (jt_code 22) 8 = .ok (.dup, 1) := by decide +kernel
theorem E22_8 {call : jv_F} {l0 l1 : Option Value} {a : Nat} {st : List Value} {h : jv_H} : jv_ev call 22 8 [l0, l1] (.ref a :: st) h = jv_ev call 22 9 [l0, l1] (.ref a :: .ref a :: st) h := je_dup D22_8 rfl rfl
theorem E22_8i {call : jv_F} {l0 l1 : Option Value} {x : Int32} {st : List Value} {h : jv_H} : jv_ev call 22 8 [l0, l1] (.int x :: st) h = jv_ev call 22 9 [l0, l1] (.int x :: .int x :: st) h := je_dup D22_8 rfl rfl
theorem D22_9 : decode (jt_code 22) 9 = .ok (.getfield 110, 3) := by decide +kernel
theorem E22_9 {call : jv_F} {l0 l1 : Option Value}  {st : List Value} {m : Nat} {I : Nat → Int32} {A : Nat → Nat → Int32} {L : Nat → Nat → Int64} {rest : Nat → Option jv_C} {z : Nat × Nat} : jv_ev call 22 9 [l0, l1] (.ref m :: st) (jm_H m I A L rest z) = jv_ev call 22 12 [l0, l1] (.int (I 22) :: st) (jm_H m I A L rest z) := je_get D22_9 rfl (by decide) jm_g22
theorem D22_12 : decode (jt_code 22) 12 = .ok (.iconst 1, 1) := by decide +kernel
theorem E22_12 {call : jv_F} {l0 l1 : Option Value}  {st : List Value} {h : jv_H} : jv_ev call 22 12 [l0, l1] st h = jv_ev call 22 13 [l0, l1] (.int (nI 1) :: st) h := je_iconst D22_12 rfl (by decide)
theorem D22_13 : decode (jt_code 22) 13 = .ok (.isub, 1) := by decide +kernel
theorem E22_13 {call : jv_F} {l0 l1 : Option Value} {x y : Int32} {st : List Value} {h : jv_H} : jv_ev call 22 13 [l0, l1] (.int y :: .int x :: st) h = jv_ev call 22 14 [l0, l1] (.int (x - y) :: st) h := je_b2 (f := fun x y => x - y) D22_13 rfl (fun _ => rfl)
theorem D22_14 : decode (jt_code 22) 14 = .ok (.putfield 110, 3) := by decide +kernel
theorem E22_14 {call : jv_F} {l0 l1 : Option Value} {v : Int32} {st : List Value} {m : Nat} {I : Nat → Int32} {A : Nat → Nat → Int32} {L : Nat → Nat → Int64} {rest : Nat → Option jv_C} {z : Nat × Nat} : jv_ev call 22 14 [l0, l1] (.int v :: .ref m :: st) (jm_H m I A L rest z) = jv_ev call 22 17 [l0, l1] st (jm_H m (upd I 22 v) A L rest z) := je_put D22_14 rfl (by decide) (by decide) jm_p22
theorem D22_17 : decode (jt_code 22) 17 = .ok (.return_, 1) := by decide +kernel
theorem E22_17 {call : jv_F} {l0 l1 : Option Value}  {h : jv_H} : jv_ev call 22 17 [l0, l1] [] h = some (none, h) := je_ret D22_17 rfl
