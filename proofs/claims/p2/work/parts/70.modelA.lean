/-! method 1: DrumMachineModel.word48 -/
theorem N1 {d : Nat} {a0 : Int64} {h : jv_H} : jv_run (d + 1) 1 [.long a0] h = jv_ev (jv_run d) 1 0 [some (.long a0), none] [] h := jv_run_eq (Nat.le_of_ble_eq_true rfl) rfl
theorem D1_0 : decode (jt_code 1) 0 = .ok (.lload_n 0, 1) := by decide +kernel
theorem E1_0 {call : jv_F} {l1 : Option Value} {x : Int64} {st : List Value} {h : jv_H} : jv_ev call 1 0 [some (.long x), l1] st h = jv_ev call 1 1 [some (.long x), l1] (.long x :: st) h := je_lload_n D1_0 rfl rfl
theorem D1_1 : decode (jt_code 1) 1 = .ok (.bipush 16, 2) := by decide +kernel
theorem E1_1 {call : jv_F} {l0 l1 : Option Value}  {st : List Value} {h : jv_H} : jv_ev call 1 1 [l0, l1] st h = jv_ev call 1 3 [l0, l1] (.int (nI 16) :: st) h := je_bipush D1_1 rfl (by decide)
theorem D1_3 : decode (jt_code 1) 3 = .ok (.lshl, 1) := by decide +kernel
theorem E1_3 {call : jv_F} {l0 l1 : Option Value} {x : Int64} {y : Int32} {st : List Value} {h : jv_H} : jv_ev call 1 3 [l0, l1] (.int y :: .long x :: st) h = jv_ev call 1 4 [l0, l1] (.long (x <<< (y.toInt64 &&& 63)) :: st) h := je_lshl D1_3 rfl
theorem D1_4 : decode (jt_code 1) 4 = .ok (.bipush 16, 2) := by decide +kernel
theorem E1_4 {call : jv_F} {l0 l1 : Option Value}  {st : List Value} {h : jv_H} : jv_ev call 1 4 [l0, l1] st h = jv_ev call 1 6 [l0, l1] (.int (nI 16) :: st) h := je_bipush D1_4 rfl (by decide)
theorem D1_6 : decode (jt_code 1) 6 = .ok (.lshr, 1) := by decide +kernel
theorem E1_6 {call : jv_F} {l0 l1 : Option Value} {x : Int64} {y : Int32} {st : List Value} {h : jv_H} : jv_ev call 1 6 [l0, l1] (.int y :: .long x :: st) h = jv_ev call 1 7 [l0, l1] (.long (x >>> (y.toInt64 &&& 63)) :: st) h := je_lshr D1_6 rfl
theorem D1_7 : decode (jt_code 1) 7 = .ok (.lreturn, 1) := by decide +kernel
theorem E1_7 {call : jv_F} {l0 l1 : Option Value} {v : Int64} {h : jv_H} : jv_ev call 1 7 [l0, l1] [.long v] h = some (some (.long v), h) := je_lret D1_7 rfl
/-! method 2: DrumMachineModel.word24 -/
theorem N2 {d : Nat} {a0 : Int64} {h : jv_H} : jv_run (d + 1) 2 [.long a0] h = jv_ev (jv_run d) 2 0 [some (.long a0), none] [] h := jv_run_eq (Nat.le_of_ble_eq_true rfl) rfl
theorem D2_0 : decode (jt_code 2) 0 = .ok (.lload_n 0, 1) := by decide +kernel
theorem E2_0 {call : jv_F} {l1 : Option Value} {x : Int64} {st : List Value} {h : jv_H} : jv_ev call 2 0 [some (.long x), l1] st h = jv_ev call 2 1 [some (.long x), l1] (.long x :: st) h := je_lload_n D2_0 rfl rfl
theorem D2_1 : decode (jt_code 2) 1 = .ok (.l2i, 1) := by decide +kernel
theorem E2_1 {call : jv_F} {l0 l1 : Option Value} {x : Int64} {st : List Value} {h : jv_H} : jv_ev call 2 1 [l0, l1] (.long x :: st) h = jv_ev call 2 2 [l0, l1] (.int x.toInt32 :: st) h := je_l2i D2_1 rfl
theorem D2_2 : decode (jt_code 2) 2 = .ok (.bipush 8, 2) := by decide +kernel
theorem E2_2 {call : jv_F} {l0 l1 : Option Value}  {st : List Value} {h : jv_H} : jv_ev call 2 2 [l0, l1] st h = jv_ev call 2 4 [l0, l1] (.int (nI 8) :: st) h := je_bipush D2_2 rfl (by decide)
theorem D2_4 : decode (jt_code 2) 4 = .ok (.ishl, 1) := by decide +kernel
theorem E2_4 {call : jv_F} {l0 l1 : Option Value} {x y : Int32} {st : List Value} {h : jv_H} : jv_ev call 2 4 [l0, l1] (.int y :: .int x :: st) h = jv_ev call 2 5 [l0, l1] (.int (x <<< (y &&& 31)) :: st) h := je_b2 (f := fun x y => x <<< (y &&& 31)) D2_4 rfl (fun _ => rfl)
theorem D2_5 : decode (jt_code 2) 5 = .ok (.bipush 8, 2) := by decide +kernel
theorem E2_5 {call : jv_F} {l0 l1 : Option Value}  {st : List Value} {h : jv_H} : jv_ev call 2 5 [l0, l1] st h = jv_ev call 2 7 [l0, l1] (.int (nI 8) :: st) h := je_bipush D2_5 rfl (by decide)
theorem D2_7 : decode (jt_code 2) 7 = .ok (.ishr, 1) := by decide +kernel
theorem E2_7 {call : jv_F} {l0 l1 : Option Value} {x y : Int32} {st : List Value} {h : jv_H} : jv_ev call 2 7 [l0, l1] (.int y :: .int x :: st) h = jv_ev call 2 8 [l0, l1] (.int (x >>> (y &&& 31)) :: st) h := je_b2 (f := fun x y => x >>> (y &&& 31)) D2_7 rfl (fun _ => rfl)
theorem D2_8 : decode (jt_code 2) 8 = .ok (.ireturn, 1) := by decide +kernel
theorem E2_8 {call : jv_F} {l0 l1 : Option Value} {v : Int32} {h : jv_H} : jv_ev call 2 8 [l0, l1] [.int v] h = some (some (.int v), h) := je_iret (ty := .int) D2_8 rfl rfl rfl
/-! method 3: DrumMachineModel.frames -/
theorem N3 {d : Nat} {b : Nat} {a0 : Int32} {h : jv_H} : jv_run (d + 1) 3 [.ref b, .int a0] h = jv_ev (jv_run d) 3 0 [some (.ref b), some (.int a0)] [] h := jv_run_eq (Nat.le_of_ble_eq_true rfl) rfl
theorem D3_0 : decode (jt_code 3) 0 = .ok (.iload_n 1, 1) := by decide +kernel
theorem E3_0 {call : jv_F} {l0 : Option Value} {x : Int32} {st : List Value} {h : jv_H} : jv_ev call 3 0 [l0, some (.int x)] st h = jv_ev call 3 1 [l0, some (.int x)] (.int x :: st) h := je_iload_n D3_0 rfl rfl
theorem D3_1 : decode (jt_code 3) 1 = .ok (.iconst 3, 1) := by decide +kernel
theorem E3_1 {call : jv_F} {l0 l1 : Option Value}  {st : List Value} {h : jv_H} : jv_ev call 3 1 [l0, l1] st h = jv_ev call 3 2 [l0, l1] (.int (nI 3) :: st) h := je_iconst D3_1 rfl (by decide)
theorem D3_2 : decode (jt_code 3) 2 = .ok (.if_icmp .lt 16, 3) := by decide +kernel
theorem E3_2 {call : jv_F} {l0 l1 : Option Value} {x y : Int32} {st : List Value} {h : jv_H} : jv_ev call 3 2 [l0, l1] (.int y :: .int x :: st) h = if x < y then jv_ev call 3 18 [l0, l1] st h else jv_ev call 3 5 [l0, l1] st h := je_icmp D3_2 (by decide) rfl rfl
theorem D3_5 : decode (jt_code 3) 5 = .ok (.iload_n 1, 1) := by decide +kernel
theorem E3_5 {call : jv_F} {l0 : Option Value} {x : Int32} {st : List Value} {h : jv_H} : jv_ev call 3 5 [l0, some (.int x)] st h = jv_ev call 3 6 [l0, some (.int x)] (.int x :: st) h := je_iload_n D3_5 rfl rfl
theorem D3_6 : decode (jt_code 3) 6 = .ok (.bipush 17, 2) := by decide +kernel
theorem E3_6 {call : jv_F} {l0 l1 : Option Value}  {st : List Value} {h : jv_H} : jv_ev call 3 6 [l0, l1] st h = jv_ev call 3 8 [l0, l1] (.int (nI 17) :: st) h := je_bipush D3_6 rfl (by decide)
theorem D3_8 : decode (jt_code 3) 8 = .ok (.if_icmp .gt 10, 3) := by decide +kernel
theorem E3_8 {call : jv_F} {l0 l1 : Option Value} {x y : Int32} {st : List Value} {h : jv_H} : jv_ev call 3 8 [l0, l1] (.int y :: .int x :: st) h = if y < x then jv_ev call 3 18 [l0, l1] st h else jv_ev call 3 11 [l0, l1] st h := je_icmp D3_8 (by decide) rfl rfl
theorem D3_11 : decode (jt_code 3) 11 = .ok (.aload_n 0, 1) := by decide +kernel
theorem E3_11 {call : jv_F} {l1 : Option Value} {a : Nat} {st : List Value} {h : jv_H} : jv_ev call 3 11 [some (.ref a), l1] st h = jv_ev call 3 12 [some (.ref a), l1] (.ref a :: st) h := je_aload_n (r := some a) D3_11 rfl rfl
theorem D3_12 : decode (jt_code 3) 12 = .ok (.getfield 97, 3) := by decide +kernel
theorem E3_12 {call : jv_F} {l0 l1 : Option Value}  {st : List Value} {m : Nat} {I : Nat → Int32} {A : Nat → Nat → Int32} {L : Nat → Nat → Int64} {rest : Nat → Option jv_C} {z : Nat × Nat} : jv_ev call 3 12 [l0, l1] (.ref m :: st) (jm_H m I A L rest z) = jv_ev call 3 15 [l0, l1] (.int (I 5) :: st) (jm_H m I A L rest z) := je_get D3_12 rfl (by decide) jm_g5
theorem D3_15 : decode (jt_code 3) 15 = .ok (.ifCond .le 5, 3) := by decide +kernel
theorem E3_15 {call : jv_F} {l0 l1 : Option Value} {x : Int32} {st : List Value} {h : jv_H} : jv_ev call 3 15 [l0, l1] (.int x :: st) h = if x ≤ 0 then jv_ev call 3 20 [l0, l1] st h else jv_ev call 3 18 [l0, l1] st h := je_ifc D3_15 (by decide) rfl rfl
theorem D3_18 : decode (jt_code 3) 18 = .ok (.iconst (-1), 1) := by decide +kernel
theorem E3_18 {call : jv_F} {l0 l1 : Option Value}  {st : List Value} {h : jv_H} : jv_ev call 3 18 [l0, l1] st h = jv_ev call 3 19 [l0, l1] (.int (-1) :: st) h := je_iconst D3_18 rfl (by decide)
theorem D3_19 : decode (jt_code 3) 19 = .ok (.ireturn, 1) := by decide +kernel
theorem E3_19 {call : jv_F} {l0 l1 : Option Value} {v : Int32} {h : jv_H} : jv_ev call 3 19 [l0, l1] [.int v] h = some (some (.int v), h) := je_iret (ty := .int) D3_19 rfl rfl rfl
theorem D3_20 : decode (jt_code 3) 20 = .ok (.aload_n 0, 1) := by decide +kernel
theorem E3_20 {call : jv_F} {l1 : Option Value} {a : Nat} {st : List Value} {h : jv_H} : jv_ev call 3 20 [some (.ref a), l1] st h = jv_ev call 3 21 [some (.ref a), l1] (.ref a :: st) h := je_aload_n (r := some a) D3_20 rfl rfl
theorem D3_21 : decode (jt_code 3) 21 = .ok (.iload_n 1, 1) := by decide +kernel
theorem E3_21 {call : jv_F} {l0 : Option Value} {x : Int32} {st : List Value} {h : jv_H} : jv_ev call 3 21 [l0, some (.int x)] st h = jv_ev call 3 22 [l0, some (.int x)] (.int x :: st) h := je_iload_n D3_21 rfl rfl
theorem D3_22 : decode (jt_code 3) 22 = .ok (.putfield 7, 3) := by decide +kernel
theorem E3_22 {call : jv_F} {l0 l1 : Option Value} {v : Int32} {st : List Value} {m : Nat} {I : Nat → Int32} {A : Nat → Nat → Int32} {L : Nat → Nat → Int64} {rest : Nat → Option jv_C} {z : Nat × Nat} : jv_ev call 3 22 [l0, l1] (.int v :: .ref m :: st) (jm_H m I A L rest z) = jv_ev call 3 25 [l0, l1] st (jm_H m (upd I 0 v) A L rest z) := je_put D3_22 rfl (by decide) (by decide) jm_p0
theorem D3_25 : decode (jt_code 3) 25 = .ok (.iload_n 1, 1) := by decide +kernel
theorem E3_25 {call : jv_F} {l0 : Option Value} {x : Int32} {st : List Value} {h : jv_H} : jv_ev call 3 25 [l0, some (.int x)] st h = jv_ev call 3 26 [l0, some (.int x)] (.int x :: st) h := je_iload_n D3_25 rfl rfl
theorem D3_26 : decode (jt_code 3) 26 = .ok (.ireturn, 1) := by decide +kernel
theorem E3_26 {call : jv_F} {l0 l1 : Option Value} {v : Int32} {h : jv_H} : jv_ev call 3 26 [l0, l1] [.int v] h = some (some (.int v), h) := je_iret (ty := .int) D3_26 rfl rfl rfl
/-! method 7: DrumMachineModel.exist -/
theorem N7 {d : Nat} {b : Nat} {a0 : Int32} {h : jv_H} : jv_run (d + 1) 7 [.ref b, .int a0] h = jv_ev (jv_run d) 7 0 [some (.ref b), some (.int a0)] [] h := jv_run_eq (Nat.le_of_ble_eq_true rfl) rfl
theorem D7_0 : decode (jt_code 7) 0 = .ok (.aload_n 0, 1) := by decide +kernel
theorem E7_0 {call : jv_F} {l1 : Option Value} {a : Nat} {st : List Value} {h : jv_H} : jv_ev call 7 0 [some (.ref a), l1] st h = jv_ev call 7 1 [some (.ref a), l1] (.ref a :: st) h := je_aload_n (r := some a) D7_0 rfl rfl
theorem D7_1 : decode (jt_code 7) 1 = .ok (.getfield 63, 3) := by decide +kernel
theorem E7_1 {call : jv_F} {l0 l1 : Option Value}  {st : List Value} {m : Nat} {I : Nat → Int32} {A : Nat → Nat → Int32} {L : Nat → Nat → Int64} {rest : Nat → Option jv_C} {z : Nat × Nat} : jv_ev call 7 1 [l0, l1] (.ref m :: st) (jm_H m I A L rest z) = jv_ev call 7 4 [l0, l1] (.ref (m + 17) :: st) (jm_H m I A L rest z) := je_get D7_1 rfl (by decide) jm_g20
theorem D7_4 : decode (jt_code 7) 4 = .ok (.iload_n 1, 1) := by decide +kernel
theorem E7_4 {call : jv_F} {l0 : Option Value} {x : Int32} {st : List Value} {h : jv_H} : jv_ev call 7 4 [l0, some (.int x)] st h = jv_ev call 7 5 [l0, some (.int x)] (.int x :: st) h := je_iload_n D7_4 rfl rfl
theorem D7_5 : decode (jt_code 7) 5 = .ok (.iconst 1, 1) := by decide +kernel
theorem E7_5 {call : jv_F} {l0 l1 : Option Value}  {st : List Value} {h : jv_H} : jv_ev call 7 5 [l0, l1] st h = jv_ev call 7 6 [l0, l1] (.int (nI 1) :: st) h := je_iconst D7_5 rfl (by decide)
theorem D7_6 : decode (jt_code 7) 6 = .ok (.bastore, 1) := by decide +kernel
theorem E7_6 {call : jv_F} {l0 l1 : Option Value} {i : Nat} {v : Int32} {st : List Value} {m : Nat} {I : Nat → Int32} {A : Nat → Nat → Int32} {L : Nat → Nat → Int64} {rest : Nat → Option jv_C} {z : Nat × Nat} (hi : i < 768) (hv : narrow .boolean (.int v) = .int v) : jv_ev call 7 6 [l0, l1] (.int v :: .int (nI i) :: .ref (m + 17) :: st) (jm_H m I A L rest z) = jv_ev call 7 7 [l0, l1] st (jm_H m I (va_up A 20 (upd (A 20) i v)) L rest z) := je_bast D7_6 rfl (by rw [hv]; exact jm_s20 hi)
theorem D7_7 : decode (jt_code 7) 7 = .ok (.aload_n 0, 1) := by decide +kernel
theorem E7_7 {call : jv_F} {l1 : Option Value} {a : Nat} {st : List Value} {h : jv_H} : jv_ev call 7 7 [some (.ref a), l1] st h = jv_ev call 7 8 [some (.ref a), l1] (.ref a :: st) h := je_aload_n (r := some a) D7_7 rfl rfl
theorem D7_8 : decode (jt_code 7) 8 = .ok (.dup, 1) := by decide +kernel
theorem E7_8 {call : jv_F} {l0 l1 : Option Value} {a : Nat} {st : List Value} {h : jv_H} : jv_ev call 7 8 [l0, l1] (.ref a :: st) h = jv_ev call 7 9 [l0, l1] (.ref a :: .ref a :: st) h := je_dup D7_8 rfl rfl
theorem E7_8i {call : jv_F} {l0 l1 : Option Value} {x : Int32} {st : List Value} {h : jv_H} : jv_ev call 7 8 [l0, l1] (.int x :: st) h = jv_ev call 7 9 [l0, l1] (.int x :: .int x :: st) h := je_dup D7_8 rfl rfl
theorem D7_9 : decode (jt_code 7) 9 = .ok (.getfield 110, 3) := by decide +kernel
theorem E7_9 {call : jv_F} {l0 l1 : Option Value}  {st : List Value} {m : Nat} {I : Nat → Int32} {A : Nat → Nat → Int32} {L : Nat → Nat → Int64} {rest : Nat → Option jv_C} {z : Nat × Nat} : jv_ev call 7 9 [l0, l1] (.ref m :: st) (jm_H m I A L rest z) = jv_ev call 7 12 [l0, l1] (.int (I 22) :: st) (jm_H m I A L rest z) := je_get D7_9 rfl (by decide) jm_g22
theorem D7_12 : decode (jt_code 7) 12 = .ok (.iconst 1, 1) := by decide +kernel
theorem E7_12 {call : jv_F} {l0 l1 : Option Value}  {st : List Value} {h : jv_H} : jv_ev call 7 12 [l0, l1] st h = jv_ev call 7 13 [l0, l1] (.int (nI 1) :: st) h := je_iconst D7_12 rfl (by decide)
theorem D7_13 : decode (jt_code 7) 13 = .ok (.iadd, 1) := by decide +kernel
theorem E7_13 {call : jv_F} {l0 l1 : Option Value} {x y : Int32} {st : List Value} {h : jv_H} : jv_ev call 7 13 [l0, l1] (.int y :: .int x :: st) h = jv_ev call 7 14 [l0, l1] (.int (x + y) :: st) h := je_b2 (f := fun x y => x + y) D7_13 rfl (fun _ => rfl)
theorem D7_14 : decode (jt_code 7) 14 = .ok (.putfield 110, 3) := by decide +kernel
theorem E7_14 {call : jv_F} {l0 l1 : Option Value} {v : Int32} {st : List Value} {m : Nat} {I : Nat → Int32} {A : Nat → Nat → Int32} {L : Nat → Nat → Int64} {rest : Nat → Option jv_C} {z : Nat × Nat} : jv_ev call 7 14 [l0, l1] (.int v :: .ref m :: st) (jm_H m I A L rest z) = jv_ev call 7 17 [l0, l1] st (jm_H m (upd I 22 v) A L rest z) := je_put D7_14 rfl (by decide) (by decide) jm_p22
theorem D7_17 : decode (jt_code 7) 17 = .ok (.return_, 1) := by decide +kernel
theorem E7_17 {call : jv_F} {l0 l1 : Option Value}  {h : jv_H} : jv_ev call 7 17 [l0, l1] [] h = some (none, h) := je_ret D7_17 rfl
/-! method 8: DrumMachineModel.frameOf -/
theorem N8 {d : Nat} {b : Nat} {a0 : Int32} {h : jv_H} : jv_run (d + 1) 8 [.ref b, .int a0] h = jv_ev (jv_run d) 8 0 [some (.ref b), some (.int a0), none] [] h := jv_run_eq (Nat.le_of_ble_eq_true rfl) rfl
theorem D8_0 : decode (jt_code 8) 0 = .ok (.iconst 0, 1) := by decide +kernel
theorem E8_0 {call : jv_F} {l0 l1 l2 : Option Value}  {st : List Value} {h : jv_H} : jv_ev call 8 0 [l0, l1, l2] st h = jv_ev call 8 1 [l0, l1, l2] (.int (nI 0) :: st) h := je_iconst D8_0 rfl (by decide)
theorem D8_1 : decode (jt_code 8) 1 = .ok (.istore_n 2, 1) := by decide +kernel
theorem E8_1 {call : jv_F} {l0 l1 l2 : Option Value} {x : Int32} {st : List Value} {h : jv_H} (hk : ¬ jv_is2 (some l1) = true) : jv_ev call 8 1 [l0, l1, l2] (.int x :: st) h = jv_ev call 8 2 [l0, l1, some (.int x)] st h := je_istore_n D8_1 rfl (Nat.le_of_ble_eq_true rfl) (by show jv_st1 _ 2 _ = _; simp only [jv_st1, jv_kill, List.getElem?_cons_succ, List.getElem?_cons_zero, hk, if_false]; rfl)
theorem D8_2 : decode (jt_code 8) 2 = .ok (.iload_n 2, 1) := by decide +kernel
theorem E8_2 {call : jv_F} {l0 l1 : Option Value} {x : Int32} {st : List Value} {h : jv_H} : jv_ev call 8 2 [l0, l1, some (.int x)] st h = jv_ev call 8 3 [l0, l1, some (.int x)] (.int x :: st) h := je_iload_n D8_2 rfl rfl
theorem D8_3 : decode (jt_code 8) 3 = .ok (.aload_n 0, 1) := by decide +kernel
theorem E8_3 {call : jv_F} {l1 l2 : Option Value} {a : Nat} {st : List Value} {h : jv_H} : jv_ev call 8 3 [some (.ref a), l1, l2] st h = jv_ev call 8 4 [some (.ref a), l1, l2] (.ref a :: st) h := je_aload_n (r := some a) D8_3 rfl rfl
theorem D8_4 : decode (jt_code 8) 4 = .ok (.getfield 7, 3) := by decide +kernel
theorem E8_4 {call : jv_F} {l0 l1 l2 : Option Value}  {st : List Value} {m : Nat} {I : Nat → Int32} {A : Nat → Nat → Int32} {L : Nat → Nat → Int64} {rest : Nat → Option jv_C} {z : Nat × Nat} : jv_ev call 8 4 [l0, l1, l2] (.ref m :: st) (jm_H m I A L rest z) = jv_ev call 8 7 [l0, l1, l2] (.int (I 0) :: st) (jm_H m I A L rest z) := je_get D8_4 rfl (by decide) jm_g0
theorem D8_7 : decode (jt_code 8) 7 = .ok (.if_icmp .ge 21, 3) := by decide +kernel
theorem E8_7 {call : jv_F} {l0 l1 l2 : Option Value} {x y : Int32} {st : List Value} {h : jv_H} : jv_ev call 8 7 [l0, l1, l2] (.int y :: .int x :: st) h = if y ≤ x then jv_ev call 8 28 [l0, l1, l2] st h else jv_ev call 8 10 [l0, l1, l2] st h := je_icmp D8_7 (by decide) rfl rfl
theorem D8_10 : decode (jt_code 8) 10 = .ok (.aload_n 0, 1) := by decide +kernel
theorem E8_10 {call : jv_F} {l1 l2 : Option Value} {a : Nat} {st : List Value} {h : jv_H} : jv_ev call 8 10 [some (.ref a), l1, l2] st h = jv_ev call 8 11 [some (.ref a), l1, l2] (.ref a :: st) h := je_aload_n (r := some a) D8_10 rfl rfl
theorem D8_11 : decode (jt_code 8) 11 = .ok (.getfield 70, 3) := by decide +kernel
theorem E8_11 {call : jv_F} {l0 l1 l2 : Option Value}  {st : List Value} {m : Nat} {I : Nat → Int32} {A : Nat → Nat → Int32} {L : Nat → Nat → Int64} {rest : Nat → Option jv_C} {z : Nat × Nat} : jv_ev call 8 11 [l0, l1, l2] (.ref m :: st) (jm_H m I A L rest z) = jv_ev call 8 14 [l0, l1, l2] (.ref (m + 19) :: st) (jm_H m I A L rest z) := je_get D8_11 rfl (by decide) jm_g23
theorem D8_14 : decode (jt_code 8) 14 = .ok (.iload_n 2, 1) := by decide +kernel
theorem E8_14 {call : jv_F} {l0 l1 : Option Value} {x : Int32} {st : List Value} {h : jv_H} : jv_ev call 8 14 [l0, l1, some (.int x)] st h = jv_ev call 8 15 [l0, l1, some (.int x)] (.int x :: st) h := je_iload_n D8_14 rfl rfl
theorem D8_15 : decode (jt_code 8) 15 = .ok (.iaload, 1) := by decide +kernel
theorem E8_15 {call : jv_F} {l0 l1 l2 : Option Value} {i : Nat} {st : List Value} {m : Nat} {I : Nat → Int32} {A : Nat → Nat → Int32} {L : Nat → Nat → Int64} {rest : Nat → Option jv_C} {z : Nat × Nat} (hi : i < 17) : jv_ev call 8 15 [l0, l1, l2] (.int (nI i) :: .ref (m + 19) :: st) (jm_H m I A L rest z) = jv_ev call 8 16 [l0, l1, l2] (.int (A 23 i) :: st) (jm_H m I A L rest z) := je_iald D8_15 rfl (jm_l23 hi)
theorem D8_16 : decode (jt_code 8) 16 = .ok (.iload_n 1, 1) := by decide +kernel
theorem E8_16 {call : jv_F} {l0 l2 : Option Value} {x : Int32} {st : List Value} {h : jv_H} : jv_ev call 8 16 [l0, some (.int x), l2] st h = jv_ev call 8 17 [l0, some (.int x), l2] (.int x :: st) h := je_iload_n D8_16 rfl rfl
theorem D8_17 : decode (jt_code 8) 17 = .ok (.if_icmp .ne 5, 3) := by decide +kernel
theorem E8_17 {call : jv_F} {l0 l1 l2 : Option Value} {x y : Int32} {st : List Value} {h : jv_H} : jv_ev call 8 17 [l0, l1, l2] (.int y :: .int x :: st) h = if ¬ x = y then jv_ev call 8 22 [l0, l1, l2] st h else jv_ev call 8 20 [l0, l1, l2] st h := je_icmp D8_17 (by decide) rfl rfl
theorem D8_20 : decode (jt_code 8) 20 = .ok (.iload_n 2, 1) := by decide +kernel
theorem E8_20 {call : jv_F} {l0 l1 : Option Value} {x : Int32} {st : List Value} {h : jv_H} : jv_ev call 8 20 [l0, l1, some (.int x)] st h = jv_ev call 8 21 [l0, l1, some (.int x)] (.int x :: st) h := je_iload_n D8_20 rfl rfl
theorem D8_21 : decode (jt_code 8) 21 = .ok (.ireturn, 1) := by decide +kernel
theorem E8_21 {call : jv_F} {l0 l1 l2 : Option Value} {v : Int32} {h : jv_H} : jv_ev call 8 21 [l0, l1, l2] [.int v] h = some (some (.int v), h) := je_iret (ty := .int) D8_21 rfl rfl rfl
theorem D8_22 : decode (jt_code 8) 22 = .ok (.iinc 2 1, 3) := by decide +kernel
theorem E8_22 {call : jv_F} {l0 l1 : Option Value} {x : Int32} {st : List Value} {h : jv_H} (hk : ¬ jv_is2 (some l1) = true) : jv_ev call 8 22 [l0, l1, some (.int x)] st h = jv_ev call 8 25 [l0, l1, some (.int (x + (nI 1)))] st h := je_iinc D8_22 rfl rfl (v := x + (nI 1)) (by rfl) (by show jv_st1 _ 2 _ = _; simp only [jv_st1, jv_kill, List.getElem?_cons_succ, List.getElem?_cons_zero, hk, if_false]; rfl)
theorem D8_25 : decode (jt_code 8) 25 = .ok (.goto (-23), 3) := by decide +kernel
theorem E8_25 {call : jv_F} {l0 l1 l2 : Option Value}  {st : List Value} {h : jv_H} : jv_ev call 8 25 [l0, l1, l2] st h = jv_ev call 8 2 [l0, l1, l2] st h := je_goto D8_25 (by decide)
theorem D8_28 : decode (jt_code 8) 28 = .ok (.iconst (-1), 1) := by decide +kernel
theorem E8_28 {call : jv_F} {l0 l1 l2 : Option Value}  {st : List Value} {h : jv_H} : jv_ev call 8 28 [l0, l1, l2] st h = jv_ev call 8 29 [l0, l1, l2] (.int (-1) :: st) h := je_iconst D8_28 rfl (by decide)
theorem D8_29 : decode (jt_code 8) 29 = .ok (.ireturn, 1) := by decide +kernel
theorem E8_29 {call : jv_F} {l0 l1 l2 : Option Value} {v : Int32} {h : jv_H} : jv_ev call 8 29 [l0, l1, l2] [.int v] h = some (some (.int v), h) := je_iret (ty := .int) D8_29 rfl rfl rfl
/-! method 9: DrumMachineModel.sectorOf -/
theorem N9 {d : Nat} {b : Nat} {a0 : Int32} {h : jv_H} : jv_run (d + 1) 9 [.ref b, .int a0] h = jv_ev (jv_run d) 9 0 [some (.ref b), some (.int a0), none] [] h := jv_run_eq (Nat.le_of_ble_eq_true rfl) rfl
theorem D9_0 : decode (jt_code 9) 0 = .ok (.iconst 0, 1) := by decide +kernel
theorem E9_0 {call : jv_F} {l0 l1 l2 : Option Value}  {st : List Value} {h : jv_H} : jv_ev call 9 0 [l0, l1, l2] st h = jv_ev call 9 1 [l0, l1, l2] (.int (nI 0) :: st) h := je_iconst D9_0 rfl (by decide)
theorem D9_1 : decode (jt_code 9) 1 = .ok (.istore_n 2, 1) := by decide +kernel
theorem E9_1 {call : jv_F} {l0 l1 l2 : Option Value} {x : Int32} {st : List Value} {h : jv_H} (hk : ¬ jv_is2 (some l1) = true) : jv_ev call 9 1 [l0, l1, l2] (.int x :: st) h = jv_ev call 9 2 [l0, l1, some (.int x)] st h := je_istore_n D9_1 rfl (Nat.le_of_ble_eq_true rfl) (by show jv_st1 _ 2 _ = _; simp only [jv_st1, jv_kill, List.getElem?_cons_succ, List.getElem?_cons_zero, hk, if_false]; rfl)
theorem D9_2 : decode (jt_code 9) 2 = .ok (.iload_n 2, 1) := by decide +kernel
theorem E9_2 {call : jv_F} {l0 l1 : Option Value} {x : Int32} {st : List Value} {h : jv_H} : jv_ev call 9 2 [l0, l1, some (.int x)] st h = jv_ev call 9 3 [l0, l1, some (.int x)] (.int x :: st) h := je_iload_n D9_2 rfl rfl
theorem D9_3 : decode (jt_code 9) 3 = .ok (.bipush 64, 2) := by decide +kernel
theorem E9_3 {call : jv_F} {l0 l1 l2 : Option Value}  {st : List Value} {h : jv_H} : jv_ev call 9 3 [l0, l1, l2] st h = jv_ev call 9 5 [l0, l1, l2] (.int (nI 64) :: st) h := je_bipush D9_3 rfl (by decide)
theorem D9_5 : decode (jt_code 9) 5 = .ok (.if_icmp .ge 21, 3) := by decide +kernel
theorem E9_5 {call : jv_F} {l0 l1 l2 : Option Value} {x y : Int32} {st : List Value} {h : jv_H} : jv_ev call 9 5 [l0, l1, l2] (.int y :: .int x :: st) h = if y ≤ x then jv_ev call 9 26 [l0, l1, l2] st h else jv_ev call 9 8 [l0, l1, l2] st h := je_icmp D9_5 (by decide) rfl rfl
theorem D9_8 : decode (jt_code 9) 8 = .ok (.aload_n 0, 1) := by decide +kernel
theorem E9_8 {call : jv_F} {l1 l2 : Option Value} {a : Nat} {st : List Value} {h : jv_H} : jv_ev call 9 8 [some (.ref a), l1, l2] st h = jv_ev call 9 9 [some (.ref a), l1, l2] (.ref a :: st) h := je_aload_n (r := some a) D9_8 rfl rfl
theorem D9_9 : decode (jt_code 9) 9 = .ok (.getfield 85, 3) := by decide +kernel
theorem E9_9 {call : jv_F} {l0 l1 l2 : Option Value}  {st : List Value} {m : Nat} {I : Nat → Int32} {A : Nat → Nat → Int32} {L : Nat → Nat → Int64} {rest : Nat → Option jv_C} {z : Nat × Nat} : jv_ev call 9 9 [l0, l1, l2] (.ref m :: st) (jm_H m I A L rest z) = jv_ev call 9 12 [l0, l1, l2] (.ref (m + 24) :: st) (jm_H m I A L rest z) := je_get D9_9 rfl (by decide) jm_g28
theorem D9_12 : decode (jt_code 9) 12 = .ok (.iload_n 2, 1) := by decide +kernel
theorem E9_12 {call : jv_F} {l0 l1 : Option Value} {x : Int32} {st : List Value} {h : jv_H} : jv_ev call 9 12 [l0, l1, some (.int x)] st h = jv_ev call 9 13 [l0, l1, some (.int x)] (.int x :: st) h := je_iload_n D9_12 rfl rfl
theorem D9_13 : decode (jt_code 9) 13 = .ok (.iaload, 1) := by decide +kernel
theorem E9_13 {call : jv_F} {l0 l1 l2 : Option Value} {i : Nat} {st : List Value} {m : Nat} {I : Nat → Int32} {A : Nat → Nat → Int32} {L : Nat → Nat → Int64} {rest : Nat → Option jv_C} {z : Nat × Nat} (hi : i < 64) : jv_ev call 9 13 [l0, l1, l2] (.int (nI i) :: .ref (m + 24) :: st) (jm_H m I A L rest z) = jv_ev call 9 14 [l0, l1, l2] (.int (A 28 i) :: st) (jm_H m I A L rest z) := je_iald D9_13 rfl (jm_l28 hi)
theorem D9_14 : decode (jt_code 9) 14 = .ok (.iload_n 1, 1) := by decide +kernel
theorem E9_14 {call : jv_F} {l0 l2 : Option Value} {x : Int32} {st : List Value} {h : jv_H} : jv_ev call 9 14 [l0, some (.int x), l2] st h = jv_ev call 9 15 [l0, some (.int x), l2] (.int x :: st) h := je_iload_n D9_14 rfl rfl
theorem D9_15 : decode (jt_code 9) 15 = .ok (.if_icmp .ne 5, 3) := by decide +kernel
theorem E9_15 {call : jv_F} {l0 l1 l2 : Option Value} {x y : Int32} {st : List Value} {h : jv_H} : jv_ev call 9 15 [l0, l1, l2] (.int y :: .int x :: st) h = if ¬ x = y then jv_ev call 9 20 [l0, l1, l2] st h else jv_ev call 9 18 [l0, l1, l2] st h := je_icmp D9_15 (by decide) rfl rfl
theorem D9_18 : decode (jt_code 9) 18 = .ok (.iload_n 2, 1) := by decide +kernel
theorem E9_18 {call : jv_F} {l0 l1 : Option Value} {x : Int32} {st : List Value} {h : jv_H} : jv_ev call 9 18 [l0, l1, some (.int x)] st h = jv_ev call 9 19 [l0, l1, some (.int x)] (.int x :: st) h := je_iload_n D9_18 rfl rfl
theorem D9_19 : decode (jt_code 9) 19 = .ok (.ireturn, 1) := by decide +kernel
theorem E9_19 {call : jv_F} {l0 l1 l2 : Option Value} {v : Int32} {h : jv_H} : jv_ev call 9 19 [l0, l1, l2] [.int v] h = some (some (.int v), h) := je_iret (ty := .int) D9_19 rfl rfl rfl
theorem D9_20 : decode (jt_code 9) 20 = .ok (.iinc 2 1, 3) := by decide +kernel
theorem E9_20 {call : jv_F} {l0 l1 : Option Value} {x : Int32} {st : List Value} {h : jv_H} (hk : ¬ jv_is2 (some l1) = true) : jv_ev call 9 20 [l0, l1, some (.int x)] st h = jv_ev call 9 23 [l0, l1, some (.int (x + (nI 1)))] st h := je_iinc D9_20 rfl rfl (v := x + (nI 1)) (by rfl) (by show jv_st1 _ 2 _ = _; simp only [jv_st1, jv_kill, List.getElem?_cons_succ, List.getElem?_cons_zero, hk, if_false]; rfl)
theorem D9_23 : decode (jt_code 9) 23 = .ok (.goto (-21), 3) := by decide +kernel
theorem E9_23 {call : jv_F} {l0 l1 l2 : Option Value}  {st : List Value} {h : jv_H} : jv_ev call 9 23 [l0, l1, l2] st h = jv_ev call 9 2 [l0, l1, l2] st h := je_goto D9_23 (by decide)
theorem D9_26 : decode (jt_code 9) 26 = .ok (.iconst (-1), 1) := by decide +kernel
theorem E9_26 {call : jv_F} {l0 l1 l2 : Option Value}  {st : List Value} {h : jv_H} : jv_ev call 9 26 [l0, l1, l2] st h = jv_ev call 9 27 [l0, l1, l2] (.int (-1) :: st) h := je_iconst D9_26 rfl (by decide)
theorem D9_27 : decode (jt_code 9) 27 = .ok (.ireturn, 1) := by decide +kernel
theorem E9_27 {call : jv_F} {l0 l1 l2 : Option Value} {v : Int32} {h : jv_H} : jv_ev call 9 27 [l0, l1, l2] [.int v] h = some (some (.int v), h) := je_iret (ty := .int) D9_27 rfl rfl rfl
/-! method 10: DrumMachineModel.freeFrame -/
theorem N10 {d : Nat} {b : Nat} {h : jv_H} : jv_run (d + 1) 10 [.ref b] h = jv_ev (jv_run d) 10 0 [some (.ref b)] [] h := jv_run_eq (Nat.le_of_ble_eq_true rfl) rfl
theorem D10_0 : decode (jt_code 10) 0 = .ok (.aload_n 0, 1) := by decide +kernel
theorem E10_0 {call : jv_F} {a : Nat} {st : List Value} {h : jv_H} : jv_ev call 10 0 [some (.ref a)] st h = jv_ev call 10 1 [some (.ref a)] (.ref a :: st) h := je_aload_n (r := some a) D10_0 rfl rfl
theorem D10_1 : decode (jt_code 10) 1 = .ok (.iconst (-1), 1) := by decide +kernel
theorem E10_1 {call : jv_F} {l0 : Option Value}  {st : List Value} {h : jv_H} : jv_ev call 10 1 [l0] st h = jv_ev call 10 2 [l0] (.int (-1) :: st) h := je_iconst D10_1 rfl (by decide)
theorem D10_2 : decode (jt_code 10) 2 = .ok (.invokevirtual 117, 3) := by decide +kernel
theorem E10_2 {call : jv_F} {l0 : Option Value} {v0 : Value}  {st : List Value} {m : Nat} {I : Nat → Int32} {A : Nat → Nat → Int32} {L : Nat → Nat → Int64} {rest : Nat → Option jv_C} {z : Nat × Nat} (hw : jv_wide st = true) (hc : (call 8 [.ref m, v0] (jm_H m I A L rest z)).isSome = true) : jv_ev call 10 2 [l0] (v0 :: .ref m :: st) (jm_H m I A L rest z) = jv_ev call 10 5 [l0] ((((call 8 [.ref m, v0] (jm_H m I A L rest z)).getD (none, (jm_H m I A L rest z))).1).toList ++ st) ((call 8 [.ref m, v0] (jm_H m I A L rest z)).getD (none, (jm_H m I A L rest z))).2 := by
  obtain ⟨⟨r, h'⟩, hv⟩ := Option.isSome_iff_exists.mp hc
  rw [hv]
  exact je_virt (y := 8) (as := [v0]) D10_2 rfl (by decide) (by decide) rfl jm_cl hw hv
theorem D10_5 : decode (jt_code 10) 5 = .ok (.ireturn, 1) := by decide +kernel
theorem E10_5 {call : jv_F} {l0 : Option Value} {v : Int32} {h : jv_H} : jv_ev call 10 5 [l0] [.int v] h = some (some (.int v), h) := je_iret (ty := .int) D10_5 rfl rfl rfl
/-! method 11: DrumMachineModel.notEnded -/
theorem N11 {d : Nat} {b : Nat} {h : jv_H} : jv_run (d + 1) 11 [.ref b] h = jv_ev (jv_run d) 11 0 [some (.ref b), none, none] [] h := jv_run_eq (Nat.le_of_ble_eq_true rfl) rfl
theorem D11_0 : decode (jt_code 11) 0 = .ok (.iconst 0, 1) := by decide +kernel
theorem E11_0 {call : jv_F} {l0 l1 l2 : Option Value}  {st : List Value} {h : jv_H} : jv_ev call 11 0 [l0, l1, l2] st h = jv_ev call 11 1 [l0, l1, l2] (.int (nI 0) :: st) h := je_iconst D11_0 rfl (by decide)
theorem D11_1 : decode (jt_code 11) 1 = .ok (.istore_n 1, 1) := by decide +kernel
theorem E11_1 {call : jv_F} {l0 l1 l2 : Option Value} {x : Int32} {st : List Value} {h : jv_H} (hk : ¬ jv_is2 (some l0) = true) : jv_ev call 11 1 [l0, l1, l2] (.int x :: st) h = jv_ev call 11 2 [l0, some (.int x), l2] st h := je_istore_n D11_1 rfl (Nat.le_of_ble_eq_true rfl) (by show jv_st1 _ 1 _ = _; simp only [jv_st1, jv_kill, List.getElem?_cons_succ, List.getElem?_cons_zero, hk, if_false]; rfl)
theorem D11_2 : decode (jt_code 11) 2 = .ok (.iconst 0, 1) := by decide +kernel
theorem E11_2 {call : jv_F} {l0 l1 l2 : Option Value}  {st : List Value} {h : jv_H} : jv_ev call 11 2 [l0, l1, l2] st h = jv_ev call 11 3 [l0, l1, l2] (.int (nI 0) :: st) h := je_iconst D11_2 rfl (by decide)
theorem D11_3 : decode (jt_code 11) 3 = .ok (.istore_n 2, 1) := by decide +kernel
theorem E11_3 {call : jv_F} {l0 l1 l2 : Option Value} {x : Int32} {st : List Value} {h : jv_H} (hk : ¬ jv_is2 (some l1) = true) : jv_ev call 11 3 [l0, l1, l2] (.int x :: st) h = jv_ev call 11 4 [l0, l1, some (.int x)] st h := je_istore_n D11_3 rfl (Nat.le_of_ble_eq_true rfl) (by show jv_st1 _ 2 _ = _; simp only [jv_st1, jv_kill, List.getElem?_cons_succ, List.getElem?_cons_zero, hk, if_false]; rfl)
theorem D11_4 : decode (jt_code 11) 4 = .ok (.iload_n 2, 1) := by decide +kernel
theorem E11_4 {call : jv_F} {l0 l1 : Option Value} {x : Int32} {st : List Value} {h : jv_H} : jv_ev call 11 4 [l0, l1, some (.int x)] st h = jv_ev call 11 5 [l0, l1, some (.int x)] (.int x :: st) h := je_iload_n D11_4 rfl rfl
theorem D11_5 : decode (jt_code 11) 5 = .ok (.aload_n 0, 1) := by decide +kernel
theorem E11_5 {call : jv_F} {l1 l2 : Option Value} {a : Nat} {st : List Value} {h : jv_H} : jv_ev call 11 5 [some (.ref a), l1, l2] st h = jv_ev call 11 6 [some (.ref a), l1, l2] (.ref a :: st) h := je_aload_n (r := some a) D11_5 rfl rfl
theorem D11_6 : decode (jt_code 11) 6 = .ok (.getfield 97, 3) := by decide +kernel
theorem E11_6 {call : jv_F} {l0 l1 l2 : Option Value}  {st : List Value} {m : Nat} {I : Nat → Int32} {A : Nat → Nat → Int32} {L : Nat → Nat → Int64} {rest : Nat → Option jv_C} {z : Nat × Nat} : jv_ev call 11 6 [l0, l1, l2] (.ref m :: st) (jm_H m I A L rest z) = jv_ev call 11 9 [l0, l1, l2] (.int (I 5) :: st) (jm_H m I A L rest z) := je_get D11_6 rfl (by decide) jm_g5
theorem D11_9 : decode (jt_code 11) 9 = .ok (.if_icmp .ge 26, 3) := by decide +kernel
theorem E11_9 {call : jv_F} {l0 l1 l2 : Option Value} {x y : Int32} {st : List Value} {h : jv_H} : jv_ev call 11 9 [l0, l1, l2] (.int y :: .int x :: st) h = if y ≤ x then jv_ev call 11 35 [l0, l1, l2] st h else jv_ev call 11 12 [l0, l1, l2] st h := je_icmp D11_9 (by decide) rfl rfl
theorem D11_12 : decode (jt_code 11) 12 = .ok (.iload_n 1, 1) := by decide +kernel
theorem E11_12 {call : jv_F} {l0 l2 : Option Value} {x : Int32} {st : List Value} {h : jv_H} : jv_ev call 11 12 [l0, some (.int x), l2] st h = jv_ev call 11 13 [l0, some (.int x), l2] (.int x :: st) h := je_iload_n D11_12 rfl rfl
theorem D11_13 : decode (jt_code 11) 13 = .ok (.aload_n 0, 1) := by decide +kernel
theorem E11_13 {call : jv_F} {l1 l2 : Option Value} {a : Nat} {st : List Value} {h : jv_H} : jv_ev call 11 13 [some (.ref a), l1, l2] st h = jv_ev call 11 14 [some (.ref a), l1, l2] (.ref a :: st) h := je_aload_n (r := some a) D11_13 rfl rfl
theorem D11_14 : decode (jt_code 11) 14 = .ok (.getfield 27, 3) := by decide +kernel
theorem E11_14 {call : jv_F} {l0 l1 l2 : Option Value}  {st : List Value} {m : Nat} {I : Nat → Int32} {A : Nat → Nat → Int32} {L : Nat → Nat → Int64} {rest : Nat → Option jv_C} {z : Nat × Nat} : jv_ev call 11 14 [l0, l1, l2] (.ref m :: st) (jm_H m I A L rest z) = jv_ev call 11 17 [l0, l1, l2] (.ref (m + 5) :: st) (jm_H m I A L rest z) := je_get D11_14 rfl (by decide) jm_g8
theorem D11_17 : decode (jt_code 11) 17 = .ok (.iload_n 2, 1) := by decide +kernel
theorem E11_17 {call : jv_F} {l0 l1 : Option Value} {x : Int32} {st : List Value} {h : jv_H} : jv_ev call 11 17 [l0, l1, some (.int x)] st h = jv_ev call 11 18 [l0, l1, some (.int x)] (.int x :: st) h := je_iload_n D11_17 rfl rfl
theorem D11_18 : decode (jt_code 11) 18 = .ok (.iaload, 1) := by decide +kernel
theorem E11_18 {call : jv_F} {l0 l1 l2 : Option Value} {i : Nat} {st : List Value} {m : Nat} {I : Nat → Int32} {A : Nat → Nat → Int32} {L : Nat → Nat → Int64} {rest : Nat → Option jv_C} {z : Nat × Nat} (hi : i < 12) : jv_ev call 11 18 [l0, l1, l2] (.int (nI i) :: .ref (m + 5) :: st) (jm_H m I A L rest z) = jv_ev call 11 19 [l0, l1, l2] (.int (A 8 i) :: st) (jm_H m I A L rest z) := je_iald D11_18 rfl (jm_l8 hi)
theorem D11_19 : decode (jt_code 11) 19 = .ok (.ifCond .ne 7, 3) := by decide +kernel
theorem E11_19 {call : jv_F} {l0 l1 l2 : Option Value} {x : Int32} {st : List Value} {h : jv_H} : jv_ev call 11 19 [l0, l1, l2] (.int x :: st) h = if ¬ x = 0 then jv_ev call 11 26 [l0, l1, l2] st h else jv_ev call 11 22 [l0, l1, l2] st h := je_ifc D11_19 (by decide) rfl rfl
theorem D11_22 : decode (jt_code 11) 22 = .ok (.iconst 1, 1) := by decide +kernel
theorem E11_22 {call : jv_F} {l0 l1 l2 : Option Value}  {st : List Value} {h : jv_H} : jv_ev call 11 22 [l0, l1, l2] st h = jv_ev call 11 23 [l0, l1, l2] (.int (nI 1) :: st) h := je_iconst D11_22 rfl (by decide)
theorem D11_23 : decode (jt_code 11) 23 = .ok (.goto 4, 3) := by decide +kernel
theorem E11_23 {call : jv_F} {l0 l1 l2 : Option Value}  {st : List Value} {h : jv_H} : jv_ev call 11 23 [l0, l1, l2] st h = jv_ev call 11 27 [l0, l1, l2] st h := je_goto D11_23 (by decide)
theorem D11_26 : decode (jt_code 11) 26 = .ok (.iconst 0, 1) := by decide +kernel
theorem E11_26 {call : jv_F} {l0 l1 l2 : Option Value}  {st : List Value} {h : jv_H} : jv_ev call 11 26 [l0, l1, l2] st h = jv_ev call 11 27 [l0, l1, l2] (.int (nI 0) :: st) h := je_iconst D11_26 rfl (by decide)
theorem D11_27 : decode (jt_code 11) 27 = .ok (.iadd, 1) := by decide +kernel
theorem E11_27 {call : jv_F} {l0 l1 l2 : Option Value} {x y : Int32} {st : List Value} {h : jv_H} : jv_ev call 11 27 [l0, l1, l2] (.int y :: .int x :: st) h = jv_ev call 11 28 [l0, l1, l2] (.int (x + y) :: st) h := je_b2 (f := fun x y => x + y) D11_27 rfl (fun _ => rfl)
theorem D11_28 : decode (jt_code 11) 28 = .ok (.istore_n 1, 1) := by decide +kernel
theorem E11_28 {call : jv_F} {l0 l1 l2 : Option Value} {x : Int32} {st : List Value} {h : jv_H} (hk : ¬ jv_is2 (some l0) = true) : jv_ev call 11 28 [l0, l1, l2] (.int x :: st) h = jv_ev call 11 29 [l0, some (.int x), l2] st h := je_istore_n D11_28 rfl (Nat.le_of_ble_eq_true rfl) (by show jv_st1 _ 1 _ = _; simp only [jv_st1, jv_kill, List.getElem?_cons_succ, List.getElem?_cons_zero, hk, if_false]; rfl)
theorem D11_29 : decode (jt_code 11) 29 = .ok (.iinc 2 1, 3) := by decide +kernel
theorem E11_29 {call : jv_F} {l0 l1 : Option Value} {x : Int32} {st : List Value} {h : jv_H} (hk : ¬ jv_is2 (some l1) = true) : jv_ev call 11 29 [l0, l1, some (.int x)] st h = jv_ev call 11 32 [l0, l1, some (.int (x + (nI 1)))] st h := je_iinc D11_29 rfl rfl (v := x + (nI 1)) (by rfl) (by show jv_st1 _ 2 _ = _; simp only [jv_st1, jv_kill, List.getElem?_cons_succ, List.getElem?_cons_zero, hk, if_false]; rfl)
theorem D11_32 : decode (jt_code 11) 32 = .ok (.goto (-28), 3) := by decide +kernel
theorem E11_32 {call : jv_F} {l0 l1 l2 : Option Value}  {st : List Value} {h : jv_H} : jv_ev call 11 32 [l0, l1, l2] st h = jv_ev call 11 4 [l0, l1, l2] st h := je_goto D11_32 (by decide)
theorem D11_35 : decode (jt_code 11) 35 = .ok (.iload_n 1, 1) := by decide +kernel
theorem E11_35 {call : jv_F} {l0 l2 : Option Value} {x : Int32} {st : List Value} {h : jv_H} : jv_ev call 11 35 [l0, some (.int x), l2] st h = jv_ev call 11 36 [l0, some (.int x), l2] (.int x :: st) h := je_iload_n D11_35 rfl rfl
theorem D11_36 : decode (jt_code 11) 36 = .ok (.ireturn, 1) := by decide +kernel
theorem E11_36 {call : jv_F} {l0 l1 l2 : Option Value} {v : Int32} {h : jv_H} : jv_ev call 11 36 [l0, l1, l2] [.int v] h = some (some (.int v), h) := je_iret (ty := .int) D11_36 rfl rfl rfl
/-! method 12: DrumMachineModel.isActive -/
theorem N12 {d : Nat} {b : Nat} {a0 : Int32} {h : jv_H} : jv_run (d + 1) 12 [.ref b, .int a0] h = jv_ev (jv_run d) 12 0 [some (.ref b), some (.int a0), none, none] [] h := jv_run_eq (Nat.le_of_ble_eq_true rfl) rfl
theorem D12_0 : decode (jt_code 12) 0 = .ok (.aload_n 0, 1) := by decide +kernel
theorem E12_0 {call : jv_F} {l1 l2 l3 : Option Value} {a : Nat} {st : List Value} {h : jv_H} : jv_ev call 12 0 [some (.ref a), l1, l2, l3] st h = jv_ev call 12 1 [some (.ref a), l1, l2, l3] (.ref a :: st) h := je_aload_n (r := some a) D12_0 rfl rfl
theorem D12_1 : decode (jt_code 12) 1 = .ok (.getfield 27, 3) := by decide +kernel
theorem E12_1 {call : jv_F} {l0 l1 l2 l3 : Option Value}  {st : List Value} {m : Nat} {I : Nat → Int32} {A : Nat → Nat → Int32} {L : Nat → Nat → Int64} {rest : Nat → Option jv_C} {z : Nat × Nat} : jv_ev call 12 1 [l0, l1, l2, l3] (.ref m :: st) (jm_H m I A L rest z) = jv_ev call 12 4 [l0, l1, l2, l3] (.ref (m + 5) :: st) (jm_H m I A L rest z) := je_get D12_1 rfl (by decide) jm_g8
theorem D12_4 : decode (jt_code 12) 4 = .ok (.iload_n 1, 1) := by decide +kernel
theorem E12_4 {call : jv_F} {l0 l2 l3 : Option Value} {x : Int32} {st : List Value} {h : jv_H} : jv_ev call 12 4 [l0, some (.int x), l2, l3] st h = jv_ev call 12 5 [l0, some (.int x), l2, l3] (.int x :: st) h := je_iload_n D12_4 rfl rfl
theorem D12_5 : decode (jt_code 12) 5 = .ok (.iaload, 1) := by decide +kernel
theorem E12_5 {call : jv_F} {l0 l1 l2 l3 : Option Value} {i : Nat} {st : List Value} {m : Nat} {I : Nat → Int32} {A : Nat → Nat → Int32} {L : Nat → Nat → Int64} {rest : Nat → Option jv_C} {z : Nat × Nat} (hi : i < 12) : jv_ev call 12 5 [l0, l1, l2, l3] (.int (nI i) :: .ref (m + 5) :: st) (jm_H m I A L rest z) = jv_ev call 12 6 [l0, l1, l2, l3] (.int (A 8 i) :: st) (jm_H m I A L rest z) := je_iald D12_5 rfl (jm_l8 hi)
theorem D12_6 : decode (jt_code 12) 6 = .ok (.ifCond .eq 5, 3) := by decide +kernel
theorem E12_6 {call : jv_F} {l0 l1 l2 l3 : Option Value} {x : Int32} {st : List Value} {h : jv_H} : jv_ev call 12 6 [l0, l1, l2, l3] (.int x :: st) h = if x = 0 then jv_ev call 12 11 [l0, l1, l2, l3] st h else jv_ev call 12 9 [l0, l1, l2, l3] st h := je_ifc D12_6 (by decide) rfl rfl
theorem D12_9 : decode (jt_code 12) 9 = .ok (.iconst 0, 1) := by decide +kernel
theorem E12_9 {call : jv_F} {l0 l1 l2 l3 : Option Value}  {st : List Value} {h : jv_H} : jv_ev call 12 9 [l0, l1, l2, l3] st h = jv_ev call 12 10 [l0, l1, l2, l3] (.int (nI 0) :: st) h := je_iconst D12_9 rfl (by decide)
theorem D12_10 : decode (jt_code 12) 10 = .ok (.ireturn, 1) := by decide +kernel
theorem E12_10 {call : jv_F} {l0 l1 l2 l3 : Option Value} {v : Int32} {h : jv_H} (hn : narrow .boolean (.int v) = .int v) (hf : fits .boolean (.int v) = true) : jv_ev call 12 10 [l0, l1, l2, l3] [.int v] h = some (some (.int v), h) := je_iret (ty := .boolean) D12_10 rfl hn hf
theorem D12_11 : decode (jt_code 12) 11 = .ok (.iconst 0, 1) := by decide +kernel
theorem E12_11 {call : jv_F} {l0 l1 l2 l3 : Option Value}  {st : List Value} {h : jv_H} : jv_ev call 12 11 [l0, l1, l2, l3] st h = jv_ev call 12 12 [l0, l1, l2, l3] (.int (nI 0) :: st) h := je_iconst D12_11 rfl (by decide)
theorem D12_12 : decode (jt_code 12) 12 = .ok (.istore_n 2, 1) := by decide +kernel
theorem E12_12 {call : jv_F} {l0 l1 l2 l3 : Option Value} {x : Int32} {st : List Value} {h : jv_H} (hk : ¬ jv_is2 (some l1) = true) : jv_ev call 12 12 [l0, l1, l2, l3] (.int x :: st) h = jv_ev call 12 13 [l0, l1, some (.int x), l3] st h := je_istore_n D12_12 rfl (Nat.le_of_ble_eq_true rfl) (by show jv_st1 _ 2 _ = _; simp only [jv_st1, jv_kill, List.getElem?_cons_succ, List.getElem?_cons_zero, hk, if_false]; rfl)
theorem D12_13 : decode (jt_code 12) 13 = .ok (.iconst 0, 1) := by decide +kernel
theorem E12_13 {call : jv_F} {l0 l1 l2 l3 : Option Value}  {st : List Value} {h : jv_H} : jv_ev call 12 13 [l0, l1, l2, l3] st h = jv_ev call 12 14 [l0, l1, l2, l3] (.int (nI 0) :: st) h := je_iconst D12_13 rfl (by decide)
theorem D12_14 : decode (jt_code 12) 14 = .ok (.istore_n 3, 1) := by decide +kernel
theorem E12_14 {call : jv_F} {l0 l1 l2 l3 : Option Value} {x : Int32} {st : List Value} {h : jv_H} (hk : ¬ jv_is2 (some l2) = true) : jv_ev call 12 14 [l0, l1, l2, l3] (.int x :: st) h = jv_ev call 12 15 [l0, l1, l2, some (.int x)] st h := je_istore_n D12_14 rfl (Nat.le_of_ble_eq_true rfl) (by show jv_st1 _ 3 _ = _; simp only [jv_st1, jv_kill, List.getElem?_cons_succ, List.getElem?_cons_zero, hk, if_false]; rfl)
theorem D12_15 : decode (jt_code 12) 15 = .ok (.iload_n 3, 1) := by decide +kernel
theorem E12_15 {call : jv_F} {l0 l1 l2 : Option Value} {x : Int32} {st : List Value} {h : jv_H} : jv_ev call 12 15 [l0, l1, l2, some (.int x)] st h = jv_ev call 12 16 [l0, l1, l2, some (.int x)] (.int x :: st) h := je_iload_n D12_15 rfl rfl
theorem D12_16 : decode (jt_code 12) 16 = .ok (.iload_n 1, 1) := by decide +kernel
theorem E12_16 {call : jv_F} {l0 l2 l3 : Option Value} {x : Int32} {st : List Value} {h : jv_H} : jv_ev call 12 16 [l0, some (.int x), l2, l3] st h = jv_ev call 12 17 [l0, some (.int x), l2, l3] (.int x :: st) h := je_iload_n D12_16 rfl rfl
theorem D12_17 : decode (jt_code 12) 17 = .ok (.if_icmp .ge 26, 3) := by decide +kernel
theorem E12_17 {call : jv_F} {l0 l1 l2 l3 : Option Value} {x y : Int32} {st : List Value} {h : jv_H} : jv_ev call 12 17 [l0, l1, l2, l3] (.int y :: .int x :: st) h = if y ≤ x then jv_ev call 12 43 [l0, l1, l2, l3] st h else jv_ev call 12 20 [l0, l1, l2, l3] st h := je_icmp D12_17 (by decide) rfl rfl
theorem D12_20 : decode (jt_code 12) 20 = .ok (.iload_n 2, 1) := by decide +kernel
theorem E12_20 {call : jv_F} {l0 l1 l3 : Option Value} {x : Int32} {st : List Value} {h : jv_H} : jv_ev call 12 20 [l0, l1, some (.int x), l3] st h = jv_ev call 12 21 [l0, l1, some (.int x), l3] (.int x :: st) h := je_iload_n D12_20 rfl rfl
theorem D12_21 : decode (jt_code 12) 21 = .ok (.aload_n 0, 1) := by decide +kernel
theorem E12_21 {call : jv_F} {l1 l2 l3 : Option Value} {a : Nat} {st : List Value} {h : jv_H} : jv_ev call 12 21 [some (.ref a), l1, l2, l3] st h = jv_ev call 12 22 [some (.ref a), l1, l2, l3] (.ref a :: st) h := je_aload_n (r := some a) D12_21 rfl rfl
theorem D12_22 : decode (jt_code 12) 22 = .ok (.getfield 27, 3) := by decide +kernel
theorem E12_22 {call : jv_F} {l0 l1 l2 l3 : Option Value}  {st : List Value} {m : Nat} {I : Nat → Int32} {A : Nat → Nat → Int32} {L : Nat → Nat → Int64} {rest : Nat → Option jv_C} {z : Nat × Nat} : jv_ev call 12 22 [l0, l1, l2, l3] (.ref m :: st) (jm_H m I A L rest z) = jv_ev call 12 25 [l0, l1, l2, l3] (.ref (m + 5) :: st) (jm_H m I A L rest z) := je_get D12_22 rfl (by decide) jm_g8
theorem D12_25 : decode (jt_code 12) 25 = .ok (.iload_n 3, 1) := by decide +kernel
theorem E12_25 {call : jv_F} {l0 l1 l2 : Option Value} {x : Int32} {st : List Value} {h : jv_H} : jv_ev call 12 25 [l0, l1, l2, some (.int x)] st h = jv_ev call 12 26 [l0, l1, l2, some (.int x)] (.int x :: st) h := je_iload_n D12_25 rfl rfl
theorem D12_26 : decode (jt_code 12) 26 = .ok (.iaload, 1) := by decide +kernel
theorem E12_26 {call : jv_F} {l0 l1 l2 l3 : Option Value} {i : Nat} {st : List Value} {m : Nat} {I : Nat → Int32} {A : Nat → Nat → Int32} {L : Nat → Nat → Int64} {rest : Nat → Option jv_C} {z : Nat × Nat} (hi : i < 12) : jv_ev call 12 26 [l0, l1, l2, l3] (.int (nI i) :: .ref (m + 5) :: st) (jm_H m I A L rest z) = jv_ev call 12 27 [l0, l1, l2, l3] (.int (A 8 i) :: st) (jm_H m I A L rest z) := je_iald D12_26 rfl (jm_l8 hi)
theorem D12_27 : decode (jt_code 12) 27 = .ok (.ifCond .ne 7, 3) := by decide +kernel
theorem E12_27 {call : jv_F} {l0 l1 l2 l3 : Option Value} {x : Int32} {st : List Value} {h : jv_H} : jv_ev call 12 27 [l0, l1, l2, l3] (.int x :: st) h = if ¬ x = 0 then jv_ev call 12 34 [l0, l1, l2, l3] st h else jv_ev call 12 30 [l0, l1, l2, l3] st h := je_ifc D12_27 (by decide) rfl rfl
theorem D12_30 : decode (jt_code 12) 30 = .ok (.iconst 1, 1) := by decide +kernel
theorem E12_30 {call : jv_F} {l0 l1 l2 l3 : Option Value}  {st : List Value} {h : jv_H} : jv_ev call 12 30 [l0, l1, l2, l3] st h = jv_ev call 12 31 [l0, l1, l2, l3] (.int (nI 1) :: st) h := je_iconst D12_30 rfl (by decide)
theorem D12_31 : decode (jt_code 12) 31 = .ok (.goto 4, 3) := by decide +kernel
theorem E12_31 {call : jv_F} {l0 l1 l2 l3 : Option Value}  {st : List Value} {h : jv_H} : jv_ev call 12 31 [l0, l1, l2, l3] st h = jv_ev call 12 35 [l0, l1, l2, l3] st h := je_goto D12_31 (by decide)
theorem D12_34 : decode (jt_code 12) 34 = .ok (.iconst 0, 1) := by decide +kernel
theorem E12_34 {call : jv_F} {l0 l1 l2 l3 : Option Value}  {st : List Value} {h : jv_H} : jv_ev call 12 34 [l0, l1, l2, l3] st h = jv_ev call 12 35 [l0, l1, l2, l3] (.int (nI 0) :: st) h := je_iconst D12_34 rfl (by decide)
theorem D12_35 : decode (jt_code 12) 35 = .ok (.iadd, 1) := by decide +kernel
theorem E12_35 {call : jv_F} {l0 l1 l2 l3 : Option Value} {x y : Int32} {st : List Value} {h : jv_H} : jv_ev call 12 35 [l0, l1, l2, l3] (.int y :: .int x :: st) h = jv_ev call 12 36 [l0, l1, l2, l3] (.int (x + y) :: st) h := je_b2 (f := fun x y => x + y) D12_35 rfl (fun _ => rfl)
theorem D12_36 : decode (jt_code 12) 36 = .ok (.istore_n 2, 1) := by decide +kernel
theorem E12_36 {call : jv_F} {l0 l1 l2 l3 : Option Value} {x : Int32} {st : List Value} {h : jv_H} (hk : ¬ jv_is2 (some l1) = true) : jv_ev call 12 36 [l0, l1, l2, l3] (.int x :: st) h = jv_ev call 12 37 [l0, l1, some (.int x), l3] st h := je_istore_n D12_36 rfl (Nat.le_of_ble_eq_true rfl) (by show jv_st1 _ 2 _ = _; simp only [jv_st1, jv_kill, List.getElem?_cons_succ, List.getElem?_cons_zero, hk, if_false]; rfl)
theorem D12_37 : decode (jt_code 12) 37 = .ok (.iinc 3 1, 3) := by decide +kernel
theorem E12_37 {call : jv_F} {l0 l1 l2 : Option Value} {x : Int32} {st : List Value} {h : jv_H} (hk : ¬ jv_is2 (some l2) = true) : jv_ev call 12 37 [l0, l1, l2, some (.int x)] st h = jv_ev call 12 40 [l0, l1, l2, some (.int (x + (nI 1)))] st h := je_iinc D12_37 rfl rfl (v := x + (nI 1)) (by rfl) (by show jv_st1 _ 3 _ = _; simp only [jv_st1, jv_kill, List.getElem?_cons_succ, List.getElem?_cons_zero, hk, if_false]; rfl)
theorem D12_40 : decode (jt_code 12) 40 = .ok (.goto (-25), 3) := by decide +kernel
theorem E12_40 {call : jv_F} {l0 l1 l2 l3 : Option Value}  {st : List Value} {h : jv_H} : jv_ev call 12 40 [l0, l1, l2, l3] st h = jv_ev call 12 15 [l0, l1, l2, l3] st h := je_goto D12_40 (by decide)
theorem D12_43 : decode (jt_code 12) 43 = .ok (.iload_n 2, 1) := by decide +kernel
theorem E12_43 {call : jv_F} {l0 l1 l3 : Option Value} {x : Int32} {st : List Value} {h : jv_H} : jv_ev call 12 43 [l0, l1, some (.int x), l3] st h = jv_ev call 12 44 [l0, l1, some (.int x), l3] (.int x :: st) h := je_iload_n D12_43 rfl rfl
theorem D12_44 : decode (jt_code 12) 44 = .ok (.aload_n 0, 1) := by decide +kernel
theorem E12_44 {call : jv_F} {l1 l2 l3 : Option Value} {a : Nat} {st : List Value} {h : jv_H} : jv_ev call 12 44 [some (.ref a), l1, l2, l3] st h = jv_ev call 12 45 [some (.ref a), l1, l2, l3] (.ref a :: st) h := je_aload_n (r := some a) D12_44 rfl rfl
theorem D12_45 : decode (jt_code 12) 45 = .ok (.getfield 7, 3) := by decide +kernel
theorem E12_45 {call : jv_F} {l0 l1 l2 l3 : Option Value}  {st : List Value} {m : Nat} {I : Nat → Int32} {A : Nat → Nat → Int32} {L : Nat → Nat → Int64} {rest : Nat → Option jv_C} {z : Nat × Nat} : jv_ev call 12 45 [l0, l1, l2, l3] (.ref m :: st) (jm_H m I A L rest z) = jv_ev call 12 48 [l0, l1, l2, l3] (.int (I 0) :: st) (jm_H m I A L rest z) := je_get D12_45 rfl (by decide) jm_g0
theorem D12_48 : decode (jt_code 12) 48 = .ok (.iconst 1, 1) := by decide +kernel
theorem E12_48 {call : jv_F} {l0 l1 l2 l3 : Option Value}  {st : List Value} {h : jv_H} : jv_ev call 12 48 [l0, l1, l2, l3] st h = jv_ev call 12 49 [l0, l1, l2, l3] (.int (nI 1) :: st) h := je_iconst D12_48 rfl (by decide)
theorem D12_49 : decode (jt_code 12) 49 = .ok (.isub, 1) := by decide +kernel
theorem E12_49 {call : jv_F} {l0 l1 l2 l3 : Option Value} {x y : Int32} {st : List Value} {h : jv_H} : jv_ev call 12 49 [l0, l1, l2, l3] (.int y :: .int x :: st) h = jv_ev call 12 50 [l0, l1, l2, l3] (.int (x - y) :: st) h := je_b2 (f := fun x y => x - y) D12_49 rfl (fun _ => rfl)
theorem D12_50 : decode (jt_code 12) 50 = .ok (.iconst 2, 1) := by decide +kernel
theorem E12_50 {call : jv_F} {l0 l1 l2 l3 : Option Value}  {st : List Value} {h : jv_H} : jv_ev call 12 50 [l0, l1, l2, l3] st h = jv_ev call 12 51 [l0, l1, l2, l3] (.int (nI 2) :: st) h := je_iconst D12_50 rfl (by decide)
theorem D12_51 : decode (jt_code 12) 51 = .ok (.idiv, 1) := by decide +kernel
theorem E12_51 {call : jv_F} {l0 l1 l2 l3 : Option Value} {x y : Int32} {st : List Value} {h : jv_H} (hy : ¬ y = 0) : jv_ev call 12 51 [l0, l1, l2, l3] (.int y :: .int x :: st) h = jv_ev call 12 52 [l0, l1, l2, l3] (.int (x / y) :: st) h := je_idiv D12_51 rfl hy
theorem D12_52 : decode (jt_code 12) 52 = .ok (.if_icmp .ge 7, 3) := by decide +kernel
theorem E12_52 {call : jv_F} {l0 l1 l2 l3 : Option Value} {x y : Int32} {st : List Value} {h : jv_H} : jv_ev call 12 52 [l0, l1, l2, l3] (.int y :: .int x :: st) h = if y ≤ x then jv_ev call 12 59 [l0, l1, l2, l3] st h else jv_ev call 12 55 [l0, l1, l2, l3] st h := je_icmp D12_52 (by decide) rfl rfl
theorem D12_55 : decode (jt_code 12) 55 = .ok (.iconst 1, 1) := by decide +kernel
theorem E12_55 {call : jv_F} {l0 l1 l2 l3 : Option Value}  {st : List Value} {h : jv_H} : jv_ev call 12 55 [l0, l1, l2, l3] st h = jv_ev call 12 56 [l0, l1, l2, l3] (.int (nI 1) :: st) h := je_iconst D12_55 rfl (by decide)
theorem D12_56 : decode (jt_code 12) 56 = .ok (.goto 4, 3) := by decide +kernel
theorem E12_56 {call : jv_F} {l0 l1 l2 l3 : Option Value}  {st : List Value} {h : jv_H} : jv_ev call 12 56 [l0, l1, l2, l3] st h = jv_ev call 12 60 [l0, l1, l2, l3] st h := je_goto D12_56 (by decide)
theorem D12_59 : decode (jt_code 12) 59 = .ok (.iconst 0, 1) := by decide +kernel
theorem E12_59 {call : jv_F} {l0 l1 l2 l3 : Option Value}  {st : List Value} {h : jv_H} : jv_ev call 12 59 [l0, l1, l2, l3] st h = jv_ev call 12 60 [l0, l1, l2, l3] (.int (nI 0) :: st) h := je_iconst D12_59 rfl (by decide)
theorem D12_60 : decode (jt_code 12) 60 = .ok (.ireturn, 1) := by decide +kernel
theorem E12_60 {call : jv_F} {l0 l1 l2 l3 : Option Value} {v : Int32} {h : jv_H} (hn : narrow .boolean (.int v) = .int v) (hf : fits .boolean (.int v) = true) : jv_ev call 12 60 [l0, l1, l2, l3] [.int v] h = some (some (.int v), h) := je_iret (ty := .boolean) D12_60 rfl hn hf
/-! method 13: DrumMachineModel.isReady -/
theorem N13 {d : Nat} {b : Nat} {a0 : Int32} {h : jv_H} : jv_run (d + 1) 13 [.ref b, .int a0] h = jv_ev (jv_run d) 13 0 [some (.ref b), some (.int a0), none] [] h := jv_run_eq (Nat.le_of_ble_eq_true rfl) rfl
theorem D13_0 : decode (jt_code 13) 0 = .ok (.aload_n 0, 1) := by decide +kernel
theorem E13_0 {call : jv_F} {l1 l2 : Option Value} {a : Nat} {st : List Value} {h : jv_H} : jv_ev call 13 0 [some (.ref a), l1, l2] st h = jv_ev call 13 1 [some (.ref a), l1, l2] (.ref a :: st) h := je_aload_n (r := some a) D13_0 rfl rfl
theorem D13_1 : decode (jt_code 13) 1 = .ok (.getfield 57, 3) := by decide +kernel
theorem E13_1 {call : jv_F} {l0 l1 l2 : Option Value}  {st : List Value} {m : Nat} {I : Nat → Int32} {A : Nat → Nat → Int32} {L : Nat → Nat → Int64} {rest : Nat → Option jv_C} {z : Nat × Nat} : jv_ev call 13 1 [l0, l1, l2] (.ref m :: st) (jm_H m I A L rest z) = jv_ev call 13 4 [l0, l1, l2] (.ref (m + 15) :: st) (jm_H m I A L rest z) := je_get D13_1 rfl (by decide) jm_g18
theorem D13_4 : decode (jt_code 13) 4 = .ok (.iload_n 1, 1) := by decide +kernel
theorem E13_4 {call : jv_F} {l0 l2 : Option Value} {x : Int32} {st : List Value} {h : jv_H} : jv_ev call 13 4 [l0, some (.int x), l2] st h = jv_ev call 13 5 [l0, some (.int x), l2] (.int x :: st) h := je_iload_n D13_4 rfl rfl
theorem D13_5 : decode (jt_code 13) 5 = .ok (.iaload, 1) := by decide +kernel
theorem E13_5 {call : jv_F} {l0 l1 l2 : Option Value} {i : Nat} {st : List Value} {m : Nat} {I : Nat → Int32} {A : Nat → Nat → Int32} {L : Nat → Nat → Int64} {rest : Nat → Option jv_C} {z : Nat × Nat} (hi : i < 12) : jv_ev call 13 5 [l0, l1, l2] (.int (nI i) :: .ref (m + 15) :: st) (jm_H m I A L rest z) = jv_ev call 13 6 [l0, l1, l2] (.int (A 18 i) :: st) (jm_H m I A L rest z) := je_iald D13_5 rfl (jm_l18 hi)
theorem D13_6 : decode (jt_code 13) 6 = .ok (.ifCond .ne 5, 3) := by decide +kernel
theorem E13_6 {call : jv_F} {l0 l1 l2 : Option Value} {x : Int32} {st : List Value} {h : jv_H} : jv_ev call 13 6 [l0, l1, l2] (.int x :: st) h = if ¬ x = 0 then jv_ev call 13 11 [l0, l1, l2] st h else jv_ev call 13 9 [l0, l1, l2] st h := je_ifc D13_6 (by decide) rfl rfl
theorem D13_9 : decode (jt_code 13) 9 = .ok (.iconst 1, 1) := by decide +kernel
theorem E13_9 {call : jv_F} {l0 l1 l2 : Option Value}  {st : List Value} {h : jv_H} : jv_ev call 13 9 [l0, l1, l2] st h = jv_ev call 13 10 [l0, l1, l2] (.int (nI 1) :: st) h := je_iconst D13_9 rfl (by decide)
theorem D13_10 : decode (jt_code 13) 10 = .ok (.ireturn, 1) := by decide +kernel
theorem E13_10 {call : jv_F} {l0 l1 l2 : Option Value} {v : Int32} {h : jv_H} (hn : narrow .boolean (.int v) = .int v) (hf : fits .boolean (.int v) = true) : jv_ev call 13 10 [l0, l1, l2] [.int v] h = some (some (.int v), h) := je_iret (ty := .boolean) D13_10 rfl hn hf
theorem D13_11 : decode (jt_code 13) 11 = .ok (.aload_n 0, 1) := by decide +kernel
theorem E13_11 {call : jv_F} {l1 l2 : Option Value} {a : Nat} {st : List Value} {h : jv_H} : jv_ev call 13 11 [some (.ref a), l1, l2] st h = jv_ev call 13 12 [some (.ref a), l1, l2] (.ref a :: st) h := je_aload_n (r := some a) D13_11 rfl rfl
theorem D13_12 : decode (jt_code 13) 12 = .ok (.getfield 57, 3) := by decide +kernel
theorem E13_12 {call : jv_F} {l0 l1 l2 : Option Value}  {st : List Value} {m : Nat} {I : Nat → Int32} {A : Nat → Nat → Int32} {L : Nat → Nat → Int64} {rest : Nat → Option jv_C} {z : Nat × Nat} : jv_ev call 13 12 [l0, l1, l2] (.ref m :: st) (jm_H m I A L rest z) = jv_ev call 13 15 [l0, l1, l2] (.ref (m + 15) :: st) (jm_H m I A L rest z) := je_get D13_12 rfl (by decide) jm_g18
theorem D13_15 : decode (jt_code 13) 15 = .ok (.iload_n 1, 1) := by decide +kernel
theorem E13_15 {call : jv_F} {l0 l2 : Option Value} {x : Int32} {st : List Value} {h : jv_H} : jv_ev call 13 15 [l0, some (.int x), l2] st h = jv_ev call 13 16 [l0, some (.int x), l2] (.int x :: st) h := je_iload_n D13_15 rfl rfl
theorem D13_16 : decode (jt_code 13) 16 = .ok (.iaload, 1) := by decide +kernel
theorem E13_16 {call : jv_F} {l0 l1 l2 : Option Value} {i : Nat} {st : List Value} {m : Nat} {I : Nat → Int32} {A : Nat → Nat → Int32} {L : Nat → Nat → Int64} {rest : Nat → Option jv_C} {z : Nat × Nat} (hi : i < 12) : jv_ev call 13 16 [l0, l1, l2] (.int (nI i) :: .ref (m + 15) :: st) (jm_H m I A L rest z) = jv_ev call 13 17 [l0, l1, l2] (.int (A 18 i) :: st) (jm_H m I A L rest z) := je_iald D13_16 rfl (jm_l18 hi)
theorem D13_17 : decode (jt_code 13) 17 = .ok (.iconst 2, 1) := by decide +kernel
theorem E13_17 {call : jv_F} {l0 l1 l2 : Option Value}  {st : List Value} {h : jv_H} : jv_ev call 13 17 [l0, l1, l2] st h = jv_ev call 13 18 [l0, l1, l2] (.int (nI 2) :: st) h := je_iconst D13_17 rfl (by decide)
theorem D13_18 : decode (jt_code 13) 18 = .ok (.if_icmp .ne 16, 3) := by decide +kernel
theorem E13_18 {call : jv_F} {l0 l1 l2 : Option Value} {x y : Int32} {st : List Value} {h : jv_H} : jv_ev call 13 18 [l0, l1, l2] (.int y :: .int x :: st) h = if ¬ x = y then jv_ev call 13 34 [l0, l1, l2] st h else jv_ev call 13 21 [l0, l1, l2] st h := je_icmp D13_18 (by decide) rfl rfl
theorem D13_21 : decode (jt_code 13) 21 = .ok (.aload_n 0, 1) := by decide +kernel
theorem E13_21 {call : jv_F} {l1 l2 : Option Value} {a : Nat} {st : List Value} {h : jv_H} : jv_ev call 13 21 [some (.ref a), l1, l2] st h = jv_ev call 13 22 [some (.ref a), l1, l2] (.ref a :: st) h := je_aload_n (r := some a) D13_21 rfl rfl
theorem D13_22 : decode (jt_code 13) 22 = .ok (.invokevirtual 121, 3) := by decide +kernel
theorem E13_22 {call : jv_F} {l0 l1 l2 : Option Value}  {st : List Value} {m : Nat} {I : Nat → Int32} {A : Nat → Nat → Int32} {L : Nat → Nat → Int64} {rest : Nat → Option jv_C} {z : Nat × Nat} (hw : jv_wide st = true) (hc : (call 10 [.ref m] (jm_H m I A L rest z)).isSome = true) : jv_ev call 13 22 [l0, l1, l2] (.ref m :: st) (jm_H m I A L rest z) = jv_ev call 13 25 [l0, l1, l2] ((((call 10 [.ref m] (jm_H m I A L rest z)).getD (none, (jm_H m I A L rest z))).1).toList ++ st) ((call 10 [.ref m] (jm_H m I A L rest z)).getD (none, (jm_H m I A L rest z))).2 := by
  obtain ⟨⟨r, h'⟩, hv⟩ := Option.isSome_iff_exists.mp hc
  rw [hv]
  exact je_virt (y := 10) (as := []) D13_22 rfl (by decide) (by decide) rfl jm_cl hw hv
theorem D13_25 : decode (jt_code 13) 25 = .ok (.ifCond .lt 7, 3) := by decide +kernel
theorem E13_25 {call : jv_F} {l0 l1 l2 : Option Value} {x : Int32} {st : List Value} {h : jv_H} : jv_ev call 13 25 [l0, l1, l2] (.int x :: st) h = if x < 0 then jv_ev call 13 32 [l0, l1, l2] st h else jv_ev call 13 28 [l0, l1, l2] st h := je_ifc D13_25 (by decide) rfl rfl
theorem D13_28 : decode (jt_code 13) 28 = .ok (.iconst 1, 1) := by decide +kernel
theorem E13_28 {call : jv_F} {l0 l1 l2 : Option Value}  {st : List Value} {h : jv_H} : jv_ev call 13 28 [l0, l1, l2] st h = jv_ev call 13 29 [l0, l1, l2] (.int (nI 1) :: st) h := je_iconst D13_28 rfl (by decide)
theorem D13_29 : decode (jt_code 13) 29 = .ok (.goto 4, 3) := by decide +kernel
theorem E13_29 {call : jv_F} {l0 l1 l2 : Option Value}  {st : List Value} {h : jv_H} : jv_ev call 13 29 [l0, l1, l2] st h = jv_ev call 13 33 [l0, l1, l2] st h := je_goto D13_29 (by decide)
theorem D13_32 : decode (jt_code 13) 32 = .ok (.iconst 0, 1) := by decide +kernel
theorem E13_32 {call : jv_F} {l0 l1 l2 : Option Value}  {st : List Value} {h : jv_H} : jv_ev call 13 32 [l0, l1, l2] st h = jv_ev call 13 33 [l0, l1, l2] (.int (nI 0) :: st) h := je_iconst D13_32 rfl (by decide)
theorem D13_33 : decode (jt_code 13) 33 = .ok (.ireturn, 1) := by decide +kernel
theorem E13_33 {call : jv_F} {l0 l1 l2 : Option Value} {v : Int32} {h : jv_H} (hn : narrow .boolean (.int v) = .int v) (hf : fits .boolean (.int v) = true) : jv_ev call 13 33 [l0, l1, l2] [.int v] h = some (some (.int v), h) := je_iret (ty := .boolean) D13_33 rfl hn hf
theorem D13_34 : decode (jt_code 13) 34 = .ok (.aload_n 0, 1) := by decide +kernel
theorem E13_34 {call : jv_F} {l1 l2 : Option Value} {a : Nat} {st : List Value} {h : jv_H} : jv_ev call 13 34 [some (.ref a), l1, l2] st h = jv_ev call 13 35 [some (.ref a), l1, l2] (.ref a :: st) h := je_aload_n (r := some a) D13_34 rfl rfl
theorem D13_35 : decode (jt_code 13) 35 = .ok (.aload_n 0, 1) := by decide +kernel
theorem E13_35 {call : jv_F} {l1 l2 : Option Value} {a : Nat} {st : List Value} {h : jv_H} : jv_ev call 13 35 [some (.ref a), l1, l2] st h = jv_ev call 13 36 [some (.ref a), l1, l2] (.ref a :: st) h := je_aload_n (r := some a) D13_35 rfl rfl
theorem D13_36 : decode (jt_code 13) 36 = .ok (.getfield 60, 3) := by decide +kernel
theorem E13_36 {call : jv_F} {l0 l1 l2 : Option Value}  {st : List Value} {m : Nat} {I : Nat → Int32} {A : Nat → Nat → Int32} {L : Nat → Nat → Int64} {rest : Nat → Option jv_C} {z : Nat × Nat} : jv_ev call 13 36 [l0, l1, l2] (.ref m :: st) (jm_H m I A L rest z) = jv_ev call 13 39 [l0, l1, l2] (.ref (m + 16) :: st) (jm_H m I A L rest z) := je_get D13_36 rfl (by decide) jm_g19
theorem D13_39 : decode (jt_code 13) 39 = .ok (.iload_n 1, 1) := by decide +kernel
theorem E13_39 {call : jv_F} {l0 l2 : Option Value} {x : Int32} {st : List Value} {h : jv_H} : jv_ev call 13 39 [l0, some (.int x), l2] st h = jv_ev call 13 40 [l0, some (.int x), l2] (.int x :: st) h := je_iload_n D13_39 rfl rfl
theorem D13_40 : decode (jt_code 13) 40 = .ok (.iaload, 1) := by decide +kernel
theorem E13_40 {call : jv_F} {l0 l1 l2 : Option Value} {i : Nat} {st : List Value} {m : Nat} {I : Nat → Int32} {A : Nat → Nat → Int32} {L : Nat → Nat → Int64} {rest : Nat → Option jv_C} {z : Nat × Nat} (hi : i < 12) : jv_ev call 13 40 [l0, l1, l2] (.int (nI i) :: .ref (m + 16) :: st) (jm_H m I A L rest z) = jv_ev call 13 41 [l0, l1, l2] (.int (A 19 i) :: st) (jm_H m I A L rest z) := je_iald D13_40 rfl (jm_l19 hi)
theorem D13_41 : decode (jt_code 13) 41 = .ok (.invokevirtual 117, 3) := by decide +kernel
theorem E13_41 {call : jv_F} {l0 l1 l2 : Option Value} {v0 : Value}  {st : List Value} {m : Nat} {I : Nat → Int32} {A : Nat → Nat → Int32} {L : Nat → Nat → Int64} {rest : Nat → Option jv_C} {z : Nat × Nat} (hw : jv_wide st = true) (hc : (call 8 [.ref m, v0] (jm_H m I A L rest z)).isSome = true) : jv_ev call 13 41 [l0, l1, l2] (v0 :: .ref m :: st) (jm_H m I A L rest z) = jv_ev call 13 44 [l0, l1, l2] ((((call 8 [.ref m, v0] (jm_H m I A L rest z)).getD (none, (jm_H m I A L rest z))).1).toList ++ st) ((call 8 [.ref m, v0] (jm_H m I A L rest z)).getD (none, (jm_H m I A L rest z))).2 := by
  obtain ⟨⟨r, h'⟩, hv⟩ := Option.isSome_iff_exists.mp hc
  rw [hv]
  exact je_virt (y := 8) (as := [v0]) D13_41 rfl (by decide) (by decide) rfl jm_cl hw hv
theorem D13_44 : decode (jt_code 13) 44 = .ok (.istore_n 2, 1) := by decide +kernel
theorem E13_44 {call : jv_F} {l0 l1 l2 : Option Value} {x : Int32} {st : List Value} {h : jv_H} (hk : ¬ jv_is2 (some l1) = true) : jv_ev call 13 44 [l0, l1, l2] (.int x :: st) h = jv_ev call 13 45 [l0, l1, some (.int x)] st h := je_istore_n D13_44 rfl (Nat.le_of_ble_eq_true rfl) (by show jv_st1 _ 2 _ = _; simp only [jv_st1, jv_kill, List.getElem?_cons_succ, List.getElem?_cons_zero, hk, if_false]; rfl)
theorem D13_45 : decode (jt_code 13) 45 = .ok (.iload_n 2, 1) := by decide +kernel
theorem E13_45 {call : jv_F} {l0 l1 : Option Value} {x : Int32} {st : List Value} {h : jv_H} : jv_ev call 13 45 [l0, l1, some (.int x)] st h = jv_ev call 13 46 [l0, l1, some (.int x)] (.int x :: st) h := je_iload_n D13_45 rfl rfl
theorem D13_46 : decode (jt_code 13) 46 = .ok (.ifCond .lt 12, 3) := by decide +kernel
theorem E13_46 {call : jv_F} {l0 l1 l2 : Option Value} {x : Int32} {st : List Value} {h : jv_H} : jv_ev call 13 46 [l0, l1, l2] (.int x :: st) h = if x < 0 then jv_ev call 13 58 [l0, l1, l2] st h else jv_ev call 13 49 [l0, l1, l2] st h := je_ifc D13_46 (by decide) rfl rfl
theorem D13_49 : decode (jt_code 13) 49 = .ok (.aload_n 0, 1) := by decide +kernel
theorem E13_49 {call : jv_F} {l1 l2 : Option Value} {a : Nat} {st : List Value} {h : jv_H} : jv_ev call 13 49 [some (.ref a), l1, l2] st h = jv_ev call 13 50 [some (.ref a), l1, l2] (.ref a :: st) h := je_aload_n (r := some a) D13_49 rfl rfl
theorem D13_50 : decode (jt_code 13) 50 = .ok (.getfield 79, 3) := by decide +kernel
theorem E13_50 {call : jv_F} {l0 l1 l2 : Option Value}  {st : List Value} {m : Nat} {I : Nat → Int32} {A : Nat → Nat → Int32} {L : Nat → Nat → Int64} {rest : Nat → Option jv_C} {z : Nat × Nat} : jv_ev call 13 50 [l0, l1, l2] (.ref m :: st) (jm_H m I A L rest z) = jv_ev call 13 53 [l0, l1, l2] (.ref (m + 22) :: st) (jm_H m I A L rest z) := je_get D13_50 rfl (by decide) jm_g26
theorem D13_53 : decode (jt_code 13) 53 = .ok (.iload_n 2, 1) := by decide +kernel
theorem E13_53 {call : jv_F} {l0 l1 : Option Value} {x : Int32} {st : List Value} {h : jv_H} : jv_ev call 13 53 [l0, l1, some (.int x)] st h = jv_ev call 13 54 [l0, l1, some (.int x)] (.int x :: st) h := je_iload_n D13_53 rfl rfl
theorem D13_54 : decode (jt_code 13) 54 = .ok (.baload, 1) := by decide +kernel
theorem E13_54 {call : jv_F} {l0 l1 l2 : Option Value} {i : Nat} {st : List Value} {m : Nat} {I : Nat → Int32} {A : Nat → Nat → Int32} {L : Nat → Nat → Int64} {rest : Nat → Option jv_C} {z : Nat × Nat} (hi : i < 17) : jv_ev call 13 54 [l0, l1, l2] (.int (nI i) :: .ref (m + 22) :: st) (jm_H m I A L rest z) = jv_ev call 13 55 [l0, l1, l2] (.int (A 26 i) :: st) (jm_H m I A L rest z) := je_bald D13_54 rfl (jm_l26 hi)
theorem D13_55 : decode (jt_code 13) 55 = .ok (.ifCond .ne 7, 3) := by decide +kernel
theorem E13_55 {call : jv_F} {l0 l1 l2 : Option Value} {x : Int32} {st : List Value} {h : jv_H} : jv_ev call 13 55 [l0, l1, l2] (.int x :: st) h = if ¬ x = 0 then jv_ev call 13 62 [l0, l1, l2] st h else jv_ev call 13 58 [l0, l1, l2] st h := je_ifc D13_55 (by decide) rfl rfl
theorem D13_58 : decode (jt_code 13) 58 = .ok (.iconst 1, 1) := by decide +kernel
theorem E13_58 {call : jv_F} {l0 l1 l2 : Option Value}  {st : List Value} {h : jv_H} : jv_ev call 13 58 [l0, l1, l2] st h = jv_ev call 13 59 [l0, l1, l2] (.int (nI 1) :: st) h := je_iconst D13_58 rfl (by decide)
theorem D13_59 : decode (jt_code 13) 59 = .ok (.goto 4, 3) := by decide +kernel
theorem E13_59 {call : jv_F} {l0 l1 l2 : Option Value}  {st : List Value} {h : jv_H} : jv_ev call 13 59 [l0, l1, l2] st h = jv_ev call 13 63 [l0, l1, l2] st h := je_goto D13_59 (by decide)
theorem D13_62 : decode (jt_code 13) 62 = .ok (.iconst 0, 1) := by decide +kernel
theorem E13_62 {call : jv_F} {l0 l1 l2 : Option Value}  {st : List Value} {h : jv_H} : jv_ev call 13 62 [l0, l1, l2] st h = jv_ev call 13 63 [l0, l1, l2] (.int (nI 0) :: st) h := je_iconst D13_62 rfl (by decide)
theorem D13_63 : decode (jt_code 13) 63 = .ok (.ireturn, 1) := by decide +kernel
theorem E13_63 {call : jv_F} {l0 l1 l2 : Option Value} {v : Int32} {h : jv_H} (hn : narrow .boolean (.int v) = .int v) (hf : fits .boolean (.int v) = true) : jv_ev call 13 63 [l0, l1, l2] [.int v] h = some (some (.int v), h) := je_iret (ty := .boolean) D13_63 rfl hn hf
/-! method 14: DrumMachineModel.isAddress -/
theorem N14 {d : Nat} {a0 : Int32} {h : jv_H} : jv_run (d + 1) 14 [.int a0] h = jv_ev (jv_run d) 14 0 [some (.int a0)] [] h := jv_run_eq (Nat.le_of_ble_eq_true rfl) rfl
theorem D14_0 : decode (jt_code 14) 0 = .ok (.iload_n 0, 1) := by decide +kernel
theorem E14_0 {call : jv_F} {x : Int32} {st : List Value} {h : jv_H} : jv_ev call 14 0 [some (.int x)] st h = jv_ev call 14 1 [some (.int x)] (.int x :: st) h := je_iload_n D14_0 rfl rfl
theorem D14_1 : decode (jt_code 14) 1 = .ok (.ifCond .lt 14, 3) := by decide +kernel
theorem E14_1 {call : jv_F} {l0 : Option Value} {x : Int32} {st : List Value} {h : jv_H} : jv_ev call 14 1 [l0] (.int x :: st) h = if x < 0 then jv_ev call 14 15 [l0] st h else jv_ev call 14 4 [l0] st h := je_ifc D14_1 (by decide) rfl rfl
theorem D14_4 : decode (jt_code 14) 4 = .ok (.iload_n 0, 1) := by decide +kernel
theorem E14_4 {call : jv_F} {x : Int32} {st : List Value} {h : jv_H} : jv_ev call 14 4 [some (.int x)] st h = jv_ev call 14 5 [some (.int x)] (.int x :: st) h := je_iload_n D14_4 rfl rfl
theorem D14_5 : decode (jt_code 14) 5 = .ok (.sipush 1024, 3) := by decide +kernel
theorem E14_5 {call : jv_F} {l0 : Option Value}  {st : List Value} {h : jv_H} : jv_ev call 14 5 [l0] st h = jv_ev call 14 8 [l0] (.int (nI 1024) :: st) h := je_sipush D14_5 rfl (by decide)
theorem D14_8 : decode (jt_code 14) 8 = .ok (.if_icmp .ge 7, 3) := by decide +kernel
theorem E14_8 {call : jv_F} {l0 : Option Value} {x y : Int32} {st : List Value} {h : jv_H} : jv_ev call 14 8 [l0] (.int y :: .int x :: st) h = if y ≤ x then jv_ev call 14 15 [l0] st h else jv_ev call 14 11 [l0] st h := je_icmp D14_8 (by decide) rfl rfl
theorem D14_11 : decode (jt_code 14) 11 = .ok (.iconst 1, 1) := by decide +kernel
theorem E14_11 {call : jv_F} {l0 : Option Value}  {st : List Value} {h : jv_H} : jv_ev call 14 11 [l0] st h = jv_ev call 14 12 [l0] (.int (nI 1) :: st) h := je_iconst D14_11 rfl (by decide)
theorem D14_12 : decode (jt_code 14) 12 = .ok (.goto 4, 3) := by decide +kernel
theorem E14_12 {call : jv_F} {l0 : Option Value}  {st : List Value} {h : jv_H} : jv_ev call 14 12 [l0] st h = jv_ev call 14 16 [l0] st h := je_goto D14_12 (by decide)
theorem D14_15 : decode (jt_code 14) 15 = .ok (.iconst 0, 1) := by decide +kernel
theorem E14_15 {call : jv_F} {l0 : Option Value}  {st : List Value} {h : jv_H} : jv_ev call 14 15 [l0] st h = jv_ev call 14 16 [l0] (.int (nI 0) :: st) h := je_iconst D14_15 rfl (by decide)
theorem D14_16 : decode (jt_code 14) 16 = .ok (.ireturn, 1) := by decide +kernel
theorem E14_16 {call : jv_F} {l0 : Option Value} {v : Int32} {h : jv_H} (hn : narrow .boolean (.int v) = .int v) (hf : fits .boolean (.int v) = true) : jv_ev call 14 16 [l0] [.int v] h = some (some (.int v), h) := je_iret (ty := .boolean) D14_16 rfl hn hf
/-! method 15: DrumMachineModel.blockOf -/
theorem N15 {d : Nat} {a0 : Int32} {a1 : Int32} {h : jv_H} : jv_run (d + 1) 15 [.int a0, .int a1] h = jv_ev (jv_run d) 15 0 [some (.int a0), some (.int a1)] [] h := jv_run_eq (Nat.le_of_ble_eq_true rfl) rfl
theorem D15_0 : decode (jt_code 15) 0 = .ok (.bipush 64, 2) := by decide +kernel
theorem E15_0 {call : jv_F} {l0 l1 : Option Value}  {st : List Value} {h : jv_H} : jv_ev call 15 0 [l0, l1] st h = jv_ev call 15 2 [l0, l1] (.int (nI 64) :: st) h := je_bipush D15_0 rfl (by decide)
theorem D15_2 : decode (jt_code 15) 2 = .ok (.iload_n 0, 1) := by decide +kernel
theorem E15_2 {call : jv_F} {l1 : Option Value} {x : Int32} {st : List Value} {h : jv_H} : jv_ev call 15 2 [some (.int x), l1] st h = jv_ev call 15 3 [some (.int x), l1] (.int x :: st) h := je_iload_n D15_2 rfl rfl
theorem D15_3 : decode (jt_code 15) 3 = .ok (.imul, 1) := by decide +kernel
theorem E15_3 {call : jv_F} {l0 l1 : Option Value} {x y : Int32} {st : List Value} {h : jv_H} : jv_ev call 15 3 [l0, l1] (.int y :: .int x :: st) h = jv_ev call 15 4 [l0, l1] (.int (x * y) :: st) h := je_b2 (f := fun x y => x * y) D15_3 rfl (fun _ => rfl)
theorem D15_4 : decode (jt_code 15) 4 = .ok (.iload_n 1, 1) := by decide +kernel
theorem E15_4 {call : jv_F} {l0 : Option Value} {x : Int32} {st : List Value} {h : jv_H} : jv_ev call 15 4 [l0, some (.int x)] st h = jv_ev call 15 5 [l0, some (.int x)] (.int x :: st) h := je_iload_n D15_4 rfl rfl
theorem D15_5 : decode (jt_code 15) 5 = .ok (.bipush 16, 2) := by decide +kernel
theorem E15_5 {call : jv_F} {l0 l1 : Option Value}  {st : List Value} {h : jv_H} : jv_ev call 15 5 [l0, l1] st h = jv_ev call 15 7 [l0, l1] (.int (nI 16) :: st) h := je_bipush D15_5 rfl (by decide)
theorem D15_7 : decode (jt_code 15) 7 = .ok (.idiv, 1) := by decide +kernel
theorem E15_7 {call : jv_F} {l0 l1 : Option Value} {x y : Int32} {st : List Value} {h : jv_H} (hy : ¬ y = 0) : jv_ev call 15 7 [l0, l1] (.int y :: .int x :: st) h = jv_ev call 15 8 [l0, l1] (.int (x / y) :: st) h := je_idiv D15_7 rfl hy
theorem D15_8 : decode (jt_code 15) 8 = .ok (.iadd, 1) := by decide +kernel
theorem E15_8 {call : jv_F} {l0 l1 : Option Value} {x y : Int32} {st : List Value} {h : jv_H} : jv_ev call 15 8 [l0, l1] (.int y :: .int x :: st) h = jv_ev call 15 9 [l0, l1] (.int (x + y) :: st) h := je_b2 (f := fun x y => x + y) D15_8 rfl (fun _ => rfl)
theorem D15_9 : decode (jt_code 15) 9 = .ok (.ireturn, 1) := by decide +kernel
theorem E15_9 {call : jv_F} {l0 l1 : Option Value} {v : Int32} {h : jv_H} : jv_ev call 15 9 [l0, l1] [.int v] h = some (some (.int v), h) := je_iret (ty := .int) D15_9 rfl rfl rfl
/-! method 16: DrumMachineModel.isWanted -/
theorem N16 {d : Nat} {b : Nat} {a0 : Int32} {h : jv_H} : jv_run (d + 1) 16 [.ref b, .int a0] h = jv_ev (jv_run d) 16 0 [some (.ref b), some (.int a0), none] [] h := jv_run_eq (Nat.le_of_ble_eq_true rfl) rfl
theorem D16_0 : decode (jt_code 16) 0 = .ok (.iload_n 1, 1) := by decide +kernel
theorem E16_0 {call : jv_F} {l0 l2 : Option Value} {x : Int32} {st : List Value} {h : jv_H} : jv_ev call 16 0 [l0, some (.int x), l2] st h = jv_ev call 16 1 [l0, some (.int x), l2] (.int x :: st) h := je_iload_n D16_0 rfl rfl
theorem D16_1 : decode (jt_code 16) 1 = .ok (.bipush 64, 2) := by decide +kernel
theorem E16_1 {call : jv_F} {l0 l1 l2 : Option Value}  {st : List Value} {h : jv_H} : jv_ev call 16 1 [l0, l1, l2] st h = jv_ev call 16 3 [l0, l1, l2] (.int (nI 64) :: st) h := je_bipush D16_1 rfl (by decide)
theorem D16_3 : decode (jt_code 16) 3 = .ok (.idiv, 1) := by decide +kernel
theorem E16_3 {call : jv_F} {l0 l1 l2 : Option Value} {x y : Int32} {st : List Value} {h : jv_H} (hy : ¬ y = 0) : jv_ev call 16 3 [l0, l1, l2] (.int y :: .int x :: st) h = jv_ev call 16 4 [l0, l1, l2] (.int (x / y) :: st) h := je_idiv D16_3 rfl hy
theorem D16_4 : decode (jt_code 16) 4 = .ok (.istore_n 2, 1) := by decide +kernel
theorem E16_4 {call : jv_F} {l0 l1 l2 : Option Value} {x : Int32} {st : List Value} {h : jv_H} (hk : ¬ jv_is2 (some l1) = true) : jv_ev call 16 4 [l0, l1, l2] (.int x :: st) h = jv_ev call 16 5 [l0, l1, some (.int x)] st h := je_istore_n D16_4 rfl (Nat.le_of_ble_eq_true rfl) (by show jv_st1 _ 2 _ = _; simp only [jv_st1, jv_kill, List.getElem?_cons_succ, List.getElem?_cons_zero, hk, if_false]; rfl)
theorem D16_5 : decode (jt_code 16) 5 = .ok (.aload_n 0, 1) := by decide +kernel
theorem E16_5 {call : jv_F} {l1 l2 : Option Value} {a : Nat} {st : List Value} {h : jv_H} : jv_ev call 16 5 [some (.ref a), l1, l2] st h = jv_ev call 16 6 [some (.ref a), l1, l2] (.ref a :: st) h := je_aload_n (r := some a) D16_5 rfl rfl
theorem D16_6 : decode (jt_code 16) 6 = .ok (.iload_n 2, 1) := by decide +kernel
theorem E16_6 {call : jv_F} {l0 l1 : Option Value} {x : Int32} {st : List Value} {h : jv_H} : jv_ev call 16 6 [l0, l1, some (.int x)] st h = jv_ev call 16 7 [l0, l1, some (.int x)] (.int x :: st) h := je_iload_n D16_6 rfl rfl
theorem D16_7 : decode (jt_code 16) 7 = .ok (.invokevirtual 125, 3) := by decide +kernel
theorem E16_7 {call : jv_F} {l0 l1 l2 : Option Value} {v0 : Value}  {st : List Value} {m : Nat} {I : Nat → Int32} {A : Nat → Nat → Int32} {L : Nat → Nat → Int64} {rest : Nat → Option jv_C} {z : Nat × Nat} (hw : jv_wide st = true) (hc : (call 12 [.ref m, v0] (jm_H m I A L rest z)).isSome = true) : jv_ev call 16 7 [l0, l1, l2] (v0 :: .ref m :: st) (jm_H m I A L rest z) = jv_ev call 16 10 [l0, l1, l2] ((((call 12 [.ref m, v0] (jm_H m I A L rest z)).getD (none, (jm_H m I A L rest z))).1).toList ++ st) ((call 12 [.ref m, v0] (jm_H m I A L rest z)).getD (none, (jm_H m I A L rest z))).2 := by
  obtain ⟨⟨r, h'⟩, hv⟩ := Option.isSome_iff_exists.mp hc
  rw [hv]
  exact je_virt (y := 12) (as := [v0]) D16_7 rfl (by decide) (by decide) rfl jm_cl hw hv
theorem D16_10 : decode (jt_code 16) 10 = .ok (.ifCond .ne 5, 3) := by decide +kernel
theorem E16_10 {call : jv_F} {l0 l1 l2 : Option Value} {x : Int32} {st : List Value} {h : jv_H} : jv_ev call 16 10 [l0, l1, l2] (.int x :: st) h = if ¬ x = 0 then jv_ev call 16 15 [l0, l1, l2] st h else jv_ev call 16 13 [l0, l1, l2] st h := je_ifc D16_10 (by decide) rfl rfl
theorem D16_13 : decode (jt_code 16) 13 = .ok (.iconst 0, 1) := by decide +kernel
theorem E16_13 {call : jv_F} {l0 l1 l2 : Option Value}  {st : List Value} {h : jv_H} : jv_ev call 16 13 [l0, l1, l2] st h = jv_ev call 16 14 [l0, l1, l2] (.int (nI 0) :: st) h := je_iconst D16_13 rfl (by decide)
theorem D16_14 : decode (jt_code 16) 14 = .ok (.ireturn, 1) := by decide +kernel
theorem E16_14 {call : jv_F} {l0 l1 l2 : Option Value} {v : Int32} {h : jv_H} (hn : narrow .boolean (.int v) = .int v) (hf : fits .boolean (.int v) = true) : jv_ev call 16 14 [l0, l1, l2] [.int v] h = some (some (.int v), h) := je_iret (ty := .boolean) D16_14 rfl hn hf
theorem D16_15 : decode (jt_code 16) 15 = .ok (.aload_n 0, 1) := by decide +kernel
theorem E16_15 {call : jv_F} {l1 l2 : Option Value} {a : Nat} {st : List Value} {h : jv_H} : jv_ev call 16 15 [some (.ref a), l1, l2] st h = jv_ev call 16 16 [some (.ref a), l1, l2] (.ref a :: st) h := je_aload_n (r := some a) D16_15 rfl rfl
theorem D16_16 : decode (jt_code 16) 16 = .ok (.getfield 30, 3) := by decide +kernel
theorem E16_16 {call : jv_F} {l0 l1 l2 : Option Value}  {st : List Value} {m : Nat} {I : Nat → Int32} {A : Nat → Nat → Int32} {L : Nat → Nat → Int64} {rest : Nat → Option jv_C} {z : Nat × Nat} : jv_ev call 16 16 [l0, l1, l2] (.ref m :: st) (jm_H m I A L rest z) = jv_ev call 16 19 [l0, l1, l2] (.ref (m + 6) :: st) (jm_H m I A L rest z) := je_get D16_16 rfl (by decide) jm_g9
theorem D16_19 : decode (jt_code 16) 19 = .ok (.iload_n 2, 1) := by decide +kernel
theorem E16_19 {call : jv_F} {l0 l1 : Option Value} {x : Int32} {st : List Value} {h : jv_H} : jv_ev call 16 19 [l0, l1, some (.int x)] st h = jv_ev call 16 20 [l0, l1, some (.int x)] (.int x :: st) h := je_iload_n D16_19 rfl rfl
theorem D16_20 : decode (jt_code 16) 20 = .ok (.iaload, 1) := by decide +kernel
theorem E16_20 {call : jv_F} {l0 l1 l2 : Option Value} {i : Nat} {st : List Value} {m : Nat} {I : Nat → Int32} {A : Nat → Nat → Int32} {L : Nat → Nat → Int64} {rest : Nat → Option jv_C} {z : Nat × Nat} (hi : i < 12) : jv_ev call 16 20 [l0, l1, l2] (.int (nI i) :: .ref (m + 6) :: st) (jm_H m I A L rest z) = jv_ev call 16 21 [l0, l1, l2] (.int (A 9 i) :: st) (jm_H m I A L rest z) := je_iald D16_20 rfl (jm_l9 hi)
theorem D16_21 : decode (jt_code 16) 21 = .ok (.invokestatic 129, 3) := by decide +kernel
theorem E16_21 {call : jv_F} {l0 l1 l2 : Option Value} {v0 : Value}  {st : List Value} {h : jv_H} (hw : jv_wide st = true) (hc : (call 14 [v0] h).isSome = true) : jv_ev call 16 21 [l0, l1, l2] (v0 :: st) h = jv_ev call 16 24 [l0, l1, l2] ((((call 14 [v0] h).getD (none, h)).1).toList ++ st) ((call 14 [v0] h).getD (none, h)).2 := by
  obtain ⟨⟨r, h'⟩, hv⟩ := Option.isSome_iff_exists.mp hc
  rw [hv]
  exact je_stat (y := 14) (as := [v0]) D16_21 rfl (by decide) (by decide) rfl hw hv
theorem D16_24 : decode (jt_code 16) 24 = .ok (.ifCond .eq 17, 3) := by decide +kernel
theorem E16_24 {call : jv_F} {l0 l1 l2 : Option Value} {x : Int32} {st : List Value} {h : jv_H} : jv_ev call 16 24 [l0, l1, l2] (.int x :: st) h = if x = 0 then jv_ev call 16 41 [l0, l1, l2] st h else jv_ev call 16 27 [l0, l1, l2] st h := je_ifc D16_24 (by decide) rfl rfl
theorem D16_27 : decode (jt_code 16) 27 = .ok (.iload_n 2, 1) := by decide +kernel
theorem E16_27 {call : jv_F} {l0 l1 : Option Value} {x : Int32} {st : List Value} {h : jv_H} : jv_ev call 16 27 [l0, l1, some (.int x)] st h = jv_ev call 16 28 [l0, l1, some (.int x)] (.int x :: st) h := je_iload_n D16_27 rfl rfl
theorem D16_28 : decode (jt_code 16) 28 = .ok (.aload_n 0, 1) := by decide +kernel
theorem E16_28 {call : jv_F} {l1 l2 : Option Value} {a : Nat} {st : List Value} {h : jv_H} : jv_ev call 16 28 [some (.ref a), l1, l2] st h = jv_ev call 16 29 [some (.ref a), l1, l2] (.ref a :: st) h := je_aload_n (r := some a) D16_28 rfl rfl
theorem D16_29 : decode (jt_code 16) 29 = .ok (.getfield 30, 3) := by decide +kernel
theorem E16_29 {call : jv_F} {l0 l1 l2 : Option Value}  {st : List Value} {m : Nat} {I : Nat → Int32} {A : Nat → Nat → Int32} {L : Nat → Nat → Int64} {rest : Nat → Option jv_C} {z : Nat × Nat} : jv_ev call 16 29 [l0, l1, l2] (.ref m :: st) (jm_H m I A L rest z) = jv_ev call 16 32 [l0, l1, l2] (.ref (m + 6) :: st) (jm_H m I A L rest z) := je_get D16_29 rfl (by decide) jm_g9
theorem D16_32 : decode (jt_code 16) 32 = .ok (.iload_n 2, 1) := by decide +kernel
theorem E16_32 {call : jv_F} {l0 l1 : Option Value} {x : Int32} {st : List Value} {h : jv_H} : jv_ev call 16 32 [l0, l1, some (.int x)] st h = jv_ev call 16 33 [l0, l1, some (.int x)] (.int x :: st) h := je_iload_n D16_32 rfl rfl
theorem D16_33 : decode (jt_code 16) 33 = .ok (.iaload, 1) := by decide +kernel
theorem E16_33 {call : jv_F} {l0 l1 l2 : Option Value} {i : Nat} {st : List Value} {m : Nat} {I : Nat → Int32} {A : Nat → Nat → Int32} {L : Nat → Nat → Int64} {rest : Nat → Option jv_C} {z : Nat × Nat} (hi : i < 12) : jv_ev call 16 33 [l0, l1, l2] (.int (nI i) :: .ref (m + 6) :: st) (jm_H m I A L rest z) = jv_ev call 16 34 [l0, l1, l2] (.int (A 9 i) :: st) (jm_H m I A L rest z) := je_iald D16_33 rfl (jm_l9 hi)
theorem D16_34 : decode (jt_code 16) 34 = .ok (.invokestatic 132, 3) := by decide +kernel
theorem E16_34 {call : jv_F} {l0 l1 l2 : Option Value} {v0 v1 : Value}  {st : List Value} {h : jv_H} (hw : jv_wide st = true) (hc : (call 15 [v0, v1] h).isSome = true) : jv_ev call 16 34 [l0, l1, l2] (v1 :: v0 :: st) h = jv_ev call 16 37 [l0, l1, l2] ((((call 15 [v0, v1] h).getD (none, h)).1).toList ++ st) ((call 15 [v0, v1] h).getD (none, h)).2 := by
  obtain ⟨⟨r, h'⟩, hv⟩ := Option.isSome_iff_exists.mp hc
  rw [hv]
  exact je_stat (y := 15) (as := [v0, v1]) D16_34 rfl (by decide) (by decide) rfl hw hv
theorem D16_37 : decode (jt_code 16) 37 = .ok (.iload_n 1, 1) := by decide +kernel
theorem E16_37 {call : jv_F} {l0 l2 : Option Value} {x : Int32} {st : List Value} {h : jv_H} : jv_ev call 16 37 [l0, some (.int x), l2] st h = jv_ev call 16 38 [l0, some (.int x), l2] (.int x :: st) h := je_iload_n D16_37 rfl rfl
theorem D16_38 : decode (jt_code 16) 38 = .ok (.if_icmp .eq 22, 3) := by decide +kernel
theorem E16_38 {call : jv_F} {l0 l1 l2 : Option Value} {x y : Int32} {st : List Value} {h : jv_H} : jv_ev call 16 38 [l0, l1, l2] (.int y :: .int x :: st) h = if x = y then jv_ev call 16 60 [l0, l1, l2] st h else jv_ev call 16 41 [l0, l1, l2] st h := je_icmp D16_38 (by decide) rfl rfl
theorem D16_41 : decode (jt_code 16) 41 = .ok (.aload_n 0, 1) := by decide +kernel
theorem E16_41 {call : jv_F} {l1 l2 : Option Value} {a : Nat} {st : List Value} {h : jv_H} : jv_ev call 16 41 [some (.ref a), l1, l2] st h = jv_ev call 16 42 [some (.ref a), l1, l2] (.ref a :: st) h := je_aload_n (r := some a) D16_41 rfl rfl
theorem D16_42 : decode (jt_code 16) 42 = .ok (.getfield 57, 3) := by decide +kernel
theorem E16_42 {call : jv_F} {l0 l1 l2 : Option Value}  {st : List Value} {m : Nat} {I : Nat → Int32} {A : Nat → Nat → Int32} {L : Nat → Nat → Int64} {rest : Nat → Option jv_C} {z : Nat × Nat} : jv_ev call 16 42 [l0, l1, l2] (.ref m :: st) (jm_H m I A L rest z) = jv_ev call 16 45 [l0, l1, l2] (.ref (m + 15) :: st) (jm_H m I A L rest z) := je_get D16_42 rfl (by decide) jm_g18
theorem D16_45 : decode (jt_code 16) 45 = .ok (.iload_n 2, 1) := by decide +kernel
theorem E16_45 {call : jv_F} {l0 l1 : Option Value} {x : Int32} {st : List Value} {h : jv_H} : jv_ev call 16 45 [l0, l1, some (.int x)] st h = jv_ev call 16 46 [l0, l1, some (.int x)] (.int x :: st) h := je_iload_n D16_45 rfl rfl
theorem D16_46 : decode (jt_code 16) 46 = .ok (.iaload, 1) := by decide +kernel
theorem E16_46 {call : jv_F} {l0 l1 l2 : Option Value} {i : Nat} {st : List Value} {m : Nat} {I : Nat → Int32} {A : Nat → Nat → Int32} {L : Nat → Nat → Int64} {rest : Nat → Option jv_C} {z : Nat × Nat} (hi : i < 12) : jv_ev call 16 46 [l0, l1, l2] (.int (nI i) :: .ref (m + 15) :: st) (jm_H m I A L rest z) = jv_ev call 16 47 [l0, l1, l2] (.int (A 18 i) :: st) (jm_H m I A L rest z) := je_iald D16_46 rfl (jm_l18 hi)
theorem D16_47 : decode (jt_code 16) 47 = .ok (.ifCond .eq 17, 3) := by decide +kernel
theorem E16_47 {call : jv_F} {l0 l1 l2 : Option Value} {x : Int32} {st : List Value} {h : jv_H} : jv_ev call 16 47 [l0, l1, l2] (.int x :: st) h = if x = 0 then jv_ev call 16 64 [l0, l1, l2] st h else jv_ev call 16 50 [l0, l1, l2] st h := je_ifc D16_47 (by decide) rfl rfl
theorem D16_50 : decode (jt_code 16) 50 = .ok (.aload_n 0, 1) := by decide +kernel
theorem E16_50 {call : jv_F} {l1 l2 : Option Value} {a : Nat} {st : List Value} {h : jv_H} : jv_ev call 16 50 [some (.ref a), l1, l2] st h = jv_ev call 16 51 [some (.ref a), l1, l2] (.ref a :: st) h := je_aload_n (r := some a) D16_50 rfl rfl
theorem D16_51 : decode (jt_code 16) 51 = .ok (.getfield 60, 3) := by decide +kernel
theorem E16_51 {call : jv_F} {l0 l1 l2 : Option Value}  {st : List Value} {m : Nat} {I : Nat → Int32} {A : Nat → Nat → Int32} {L : Nat → Nat → Int64} {rest : Nat → Option jv_C} {z : Nat × Nat} : jv_ev call 16 51 [l0, l1, l2] (.ref m :: st) (jm_H m I A L rest z) = jv_ev call 16 54 [l0, l1, l2] (.ref (m + 16) :: st) (jm_H m I A L rest z) := je_get D16_51 rfl (by decide) jm_g19
theorem D16_54 : decode (jt_code 16) 54 = .ok (.iload_n 2, 1) := by decide +kernel
theorem E16_54 {call : jv_F} {l0 l1 : Option Value} {x : Int32} {st : List Value} {h : jv_H} : jv_ev call 16 54 [l0, l1, some (.int x)] st h = jv_ev call 16 55 [l0, l1, some (.int x)] (.int x :: st) h := je_iload_n D16_54 rfl rfl
theorem D16_55 : decode (jt_code 16) 55 = .ok (.iaload, 1) := by decide +kernel
theorem E16_55 {call : jv_F} {l0 l1 l2 : Option Value} {i : Nat} {st : List Value} {m : Nat} {I : Nat → Int32} {A : Nat → Nat → Int32} {L : Nat → Nat → Int64} {rest : Nat → Option jv_C} {z : Nat × Nat} (hi : i < 12) : jv_ev call 16 55 [l0, l1, l2] (.int (nI i) :: .ref (m + 16) :: st) (jm_H m I A L rest z) = jv_ev call 16 56 [l0, l1, l2] (.int (A 19 i) :: st) (jm_H m I A L rest z) := je_iald D16_55 rfl (jm_l19 hi)
theorem D16_56 : decode (jt_code 16) 56 = .ok (.iload_n 1, 1) := by decide +kernel
theorem E16_56 {call : jv_F} {l0 l2 : Option Value} {x : Int32} {st : List Value} {h : jv_H} : jv_ev call 16 56 [l0, some (.int x), l2] st h = jv_ev call 16 57 [l0, some (.int x), l2] (.int x :: st) h := je_iload_n D16_56 rfl rfl
theorem D16_57 : decode (jt_code 16) 57 = .ok (.if_icmp .ne 7, 3) := by decide +kernel
theorem E16_57 {call : jv_F} {l0 l1 l2 : Option Value} {x y : Int32} {st : List Value} {h : jv_H} : jv_ev call 16 57 [l0, l1, l2] (.int y :: .int x :: st) h = if ¬ x = y then jv_ev call 16 64 [l0, l1, l2] st h else jv_ev call 16 60 [l0, l1, l2] st h := je_icmp D16_57 (by decide) rfl rfl
theorem D16_60 : decode (jt_code 16) 60 = .ok (.iconst 1, 1) := by decide +kernel
theorem E16_60 {call : jv_F} {l0 l1 l2 : Option Value}  {st : List Value} {h : jv_H} : jv_ev call 16 60 [l0, l1, l2] st h = jv_ev call 16 61 [l0, l1, l2] (.int (nI 1) :: st) h := je_iconst D16_60 rfl (by decide)
theorem D16_61 : decode (jt_code 16) 61 = .ok (.goto 4, 3) := by decide +kernel
theorem E16_61 {call : jv_F} {l0 l1 l2 : Option Value}  {st : List Value} {h : jv_H} : jv_ev call 16 61 [l0, l1, l2] st h = jv_ev call 16 65 [l0, l1, l2] st h := je_goto D16_61 (by decide)
theorem D16_64 : decode (jt_code 16) 64 = .ok (.iconst 0, 1) := by decide +kernel
theorem E16_64 {call : jv_F} {l0 l1 l2 : Option Value}  {st : List Value} {h : jv_H} : jv_ev call 16 64 [l0, l1, l2] st h = jv_ev call 16 65 [l0, l1, l2] (.int (nI 0) :: st) h := je_iconst D16_64 rfl (by decide)
theorem D16_65 : decode (jt_code 16) 65 = .ok (.ireturn, 1) := by decide +kernel
theorem E16_65 {call : jv_F} {l0 l1 l2 : Option Value} {v : Int32} {h : jv_H} (hn : narrow .boolean (.int v) = .int v) (hf : fits .boolean (.int v) = true) : jv_ev call 16 65 [l0, l1, l2] [.int v] h = some (some (.int v), h) := je_iret (ty := .boolean) D16_65 rfl hn hf
/-! method 17: DrumMachineModel.run -/
theorem N17 {d : Nat} {b : Nat} {a0 : Int32} {h : jv_H} : jv_run (d + 1) 17 [.ref b, .int a0] h = jv_ev (jv_run d) 17 0 [some (.ref b), some (.int a0), none] [] h := jv_run_eq (Nat.le_of_ble_eq_true rfl) rfl
theorem D17_0 : decode (jt_code 17) 0 = .ok (.iload_n 1, 1) := by decide +kernel
theorem E17_0 {call : jv_F} {l0 l2 : Option Value} {x : Int32} {st : List Value} {h : jv_H} : jv_ev call 17 0 [l0, some (.int x), l2] st h = jv_ev call 17 1 [l0, some (.int x), l2] (.int x :: st) h := je_iload_n D17_0 rfl rfl
theorem D17_1 : decode (jt_code 17) 1 = .ok (.ifCond .lt 10, 3) := by decide +kernel
theorem E17_1 {call : jv_F} {l0 l1 l2 : Option Value} {x : Int32} {st : List Value} {h : jv_H} : jv_ev call 17 1 [l0, l1, l2] (.int x :: st) h = if x < 0 then jv_ev call 17 11 [l0, l1, l2] st h else jv_ev call 17 4 [l0, l1, l2] st h := je_ifc D17_1 (by decide) rfl rfl
theorem D17_4 : decode (jt_code 17) 4 = .ok (.iload_n 1, 1) := by decide +kernel
theorem E17_4 {call : jv_F} {l0 l2 : Option Value} {x : Int32} {st : List Value} {h : jv_H} : jv_ev call 17 4 [l0, some (.int x), l2] st h = jv_ev call 17 5 [l0, some (.int x), l2] (.int x :: st) h := je_iload_n D17_4 rfl rfl
theorem D17_5 : decode (jt_code 17) 5 = .ok (.sipush 20000, 3) := by decide +kernel
theorem E17_5 {call : jv_F} {l0 l1 l2 : Option Value}  {st : List Value} {h : jv_H} : jv_ev call 17 5 [l0, l1, l2] st h = jv_ev call 17 8 [l0, l1, l2] (.int (nI 20000) :: st) h := je_sipush D17_5 rfl (by decide)
theorem D17_8 : decode (jt_code 17) 8 = .ok (.if_icmp .le 5, 3) := by decide +kernel
theorem E17_8 {call : jv_F} {l0 l1 l2 : Option Value} {x y : Int32} {st : List Value} {h : jv_H} : jv_ev call 17 8 [l0, l1, l2] (.int y :: .int x :: st) h = if x ≤ y then jv_ev call 17 13 [l0, l1, l2] st h else jv_ev call 17 11 [l0, l1, l2] st h := je_icmp D17_8 (by decide) rfl rfl
theorem D17_11 : decode (jt_code 17) 11 = .ok (.iconst (-1), 1) := by decide +kernel
theorem E17_11 {call : jv_F} {l0 l1 l2 : Option Value}  {st : List Value} {h : jv_H} : jv_ev call 17 11 [l0, l1, l2] st h = jv_ev call 17 12 [l0, l1, l2] (.int (-1) :: st) h := je_iconst D17_11 rfl (by decide)
theorem D17_12 : decode (jt_code 17) 12 = .ok (.ireturn, 1) := by decide +kernel
theorem E17_12 {call : jv_F} {l0 l1 l2 : Option Value} {v : Int32} {h : jv_H} : jv_ev call 17 12 [l0, l1, l2] [.int v] h = some (some (.int v), h) := je_iret (ty := .int) D17_12 rfl rfl rfl
theorem D17_13 : decode (jt_code 17) 13 = .ok (.iconst 0, 1) := by decide +kernel
theorem E17_13 {call : jv_F} {l0 l1 l2 : Option Value}  {st : List Value} {h : jv_H} : jv_ev call 17 13 [l0, l1, l2] st h = jv_ev call 17 14 [l0, l1, l2] (.int (nI 0) :: st) h := je_iconst D17_13 rfl (by decide)
theorem D17_14 : decode (jt_code 17) 14 = .ok (.istore_n 2, 1) := by decide +kernel
theorem E17_14 {call : jv_F} {l0 l1 l2 : Option Value} {x : Int32} {st : List Value} {h : jv_H} (hk : ¬ jv_is2 (some l1) = true) : jv_ev call 17 14 [l0, l1, l2] (.int x :: st) h = jv_ev call 17 15 [l0, l1, some (.int x)] st h := je_istore_n D17_14 rfl (Nat.le_of_ble_eq_true rfl) (by show jv_st1 _ 2 _ = _; simp only [jv_st1, jv_kill, List.getElem?_cons_succ, List.getElem?_cons_zero, hk, if_false]; rfl)
theorem D17_15 : decode (jt_code 17) 15 = .ok (.iload_n 2, 1) := by decide +kernel
theorem E17_15 {call : jv_F} {l0 l1 : Option Value} {x : Int32} {st : List Value} {h : jv_H} : jv_ev call 17 15 [l0, l1, some (.int x)] st h = jv_ev call 17 16 [l0, l1, some (.int x)] (.int x :: st) h := je_iload_n D17_15 rfl rfl
theorem D17_16 : decode (jt_code 17) 16 = .ok (.iload_n 1, 1) := by decide +kernel
theorem E17_16 {call : jv_F} {l0 l2 : Option Value} {x : Int32} {st : List Value} {h : jv_H} : jv_ev call 17 16 [l0, some (.int x), l2] st h = jv_ev call 17 17 [l0, some (.int x), l2] (.int x :: st) h := je_iload_n D17_16 rfl rfl
theorem D17_17 : decode (jt_code 17) 17 = .ok (.if_icmp .ge 20, 3) := by decide +kernel
theorem E17_17 {call : jv_F} {l0 l1 l2 : Option Value} {x y : Int32} {st : List Value} {h : jv_H} : jv_ev call 17 17 [l0, l1, l2] (.int y :: .int x :: st) h = if y ≤ x then jv_ev call 17 37 [l0, l1, l2] st h else jv_ev call 17 20 [l0, l1, l2] st h := je_icmp D17_17 (by decide) rfl rfl
theorem D17_20 : decode (jt_code 17) 20 = .ok (.aload_n 0, 1) := by decide +kernel
theorem E17_20 {call : jv_F} {l1 l2 : Option Value} {a : Nat} {st : List Value} {h : jv_H} : jv_ev call 17 20 [some (.ref a), l1, l2] st h = jv_ev call 17 21 [some (.ref a), l1, l2] (.ref a :: st) h := je_aload_n (r := some a) D17_20 rfl rfl
theorem D17_21 : decode (jt_code 17) 21 = .ok (.invokevirtual 136, 3) := by decide +kernel
theorem E17_21 {call : jv_F} {l0 l1 l2 : Option Value}  {st : List Value} {m : Nat} {I : Nat → Int32} {A : Nat → Nat → Int32} {L : Nat → Nat → Int64} {rest : Nat → Option jv_C} {z : Nat × Nat} (hw : jv_wide st = true) (hc : (call 11 [.ref m] (jm_H m I A L rest z)).isSome = true) : jv_ev call 17 21 [l0, l1, l2] (.ref m :: st) (jm_H m I A L rest z) = jv_ev call 17 24 [l0, l1, l2] ((((call 11 [.ref m] (jm_H m I A L rest z)).getD (none, (jm_H m I A L rest z))).1).toList ++ st) ((call 11 [.ref m] (jm_H m I A L rest z)).getD (none, (jm_H m I A L rest z))).2 := by
  obtain ⟨⟨r, h'⟩, hv⟩ := Option.isSome_iff_exists.mp hc
  rw [hv]
  exact je_virt (y := 11) (as := []) D17_21 rfl (by decide) (by decide) rfl jm_cl hw hv
theorem D17_24 : decode (jt_code 17) 24 = .ok (.ifCond .le 13, 3) := by decide +kernel
theorem E17_24 {call : jv_F} {l0 l1 l2 : Option Value} {x : Int32} {st : List Value} {h : jv_H} : jv_ev call 17 24 [l0, l1, l2] (.int x :: st) h = if x ≤ 0 then jv_ev call 17 37 [l0, l1, l2] st h else jv_ev call 17 27 [l0, l1, l2] st h := je_ifc D17_24 (by decide) rfl rfl
theorem D17_27 : decode (jt_code 17) 27 = .ok (.aload_n 0, 1) := by decide +kernel
theorem E17_27 {call : jv_F} {l1 l2 : Option Value} {a : Nat} {st : List Value} {h : jv_H} : jv_ev call 17 27 [some (.ref a), l1, l2] st h = jv_ev call 17 28 [some (.ref a), l1, l2] (.ref a :: st) h := je_aload_n (r := some a) D17_27 rfl rfl
theorem D17_28 : decode (jt_code 17) 28 = .ok (.invokevirtual 139, 3) := by decide +kernel
theorem E17_28 {call : jv_F} {l0 l1 l2 : Option Value}  {st : List Value} {m : Nat} {I : Nat → Int32} {A : Nat → Nat → Int32} {L : Nat → Nat → Int64} {rest : Nat → Option jv_C} {z : Nat × Nat} (hw : jv_wide st = true) (hc : (call 18 [.ref m] (jm_H m I A L rest z)).isSome = true) : jv_ev call 17 28 [l0, l1, l2] (.ref m :: st) (jm_H m I A L rest z) = jv_ev call 17 31 [l0, l1, l2] ((((call 18 [.ref m] (jm_H m I A L rest z)).getD (none, (jm_H m I A L rest z))).1).toList ++ st) ((call 18 [.ref m] (jm_H m I A L rest z)).getD (none, (jm_H m I A L rest z))).2 := by
  obtain ⟨⟨r, h'⟩, hv⟩ := Option.isSome_iff_exists.mp hc
  rw [hv]
  exact je_virt (y := 18) (as := []) D17_28 rfl (by decide) (by decide) rfl jm_cl hw hv
theorem D17_31 : decode (jt_code 17) 31 = .ok (.iinc 2 1, 3) := by decide +kernel
theorem E17_31 {call : jv_F} {l0 l1 : Option Value} {x : Int32} {st : List Value} {h : jv_H} (hk : ¬ jv_is2 (some l1) = true) : jv_ev call 17 31 [l0, l1, some (.int x)] st h = jv_ev call 17 34 [l0, l1, some (.int (x + (nI 1)))] st h := je_iinc D17_31 rfl rfl (v := x + (nI 1)) (by rfl) (by show jv_st1 _ 2 _ = _; simp only [jv_st1, jv_kill, List.getElem?_cons_succ, List.getElem?_cons_zero, hk, if_false]; rfl)
theorem D17_34 : decode (jt_code 17) 34 = .ok (.goto (-19), 3) := by decide +kernel
theorem E17_34 {call : jv_F} {l0 l1 l2 : Option Value}  {st : List Value} {h : jv_H} : jv_ev call 17 34 [l0, l1, l2] st h = jv_ev call 17 15 [l0, l1, l2] st h := je_goto D17_34 (by decide)
theorem D17_37 : decode (jt_code 17) 37 = .ok (.aload_n 0, 1) := by decide +kernel
theorem E17_37 {call : jv_F} {l1 l2 : Option Value} {a : Nat} {st : List Value} {h : jv_H} : jv_ev call 17 37 [some (.ref a), l1, l2] st h = jv_ev call 17 38 [some (.ref a), l1, l2] (.ref a :: st) h := je_aload_n (r := some a) D17_37 rfl rfl
theorem D17_38 : decode (jt_code 17) 38 = .ok (.invokevirtual 136, 3) := by decide +kernel
theorem E17_38 {call : jv_F} {l0 l1 l2 : Option Value}  {st : List Value} {m : Nat} {I : Nat → Int32} {A : Nat → Nat → Int32} {L : Nat → Nat → Int64} {rest : Nat → Option jv_C} {z : Nat × Nat} (hw : jv_wide st = true) (hc : (call 11 [.ref m] (jm_H m I A L rest z)).isSome = true) : jv_ev call 17 38 [l0, l1, l2] (.ref m :: st) (jm_H m I A L rest z) = jv_ev call 17 41 [l0, l1, l2] ((((call 11 [.ref m] (jm_H m I A L rest z)).getD (none, (jm_H m I A L rest z))).1).toList ++ st) ((call 11 [.ref m] (jm_H m I A L rest z)).getD (none, (jm_H m I A L rest z))).2 := by
  obtain ⟨⟨r, h'⟩, hv⟩ := Option.isSome_iff_exists.mp hc
  rw [hv]
  exact je_virt (y := 11) (as := []) D17_38 rfl (by decide) (by decide) rfl jm_cl hw hv
theorem D17_41 : decode (jt_code 17) 41 = .ok (.ireturn, 1) := by decide +kernel
theorem E17_41 {call : jv_F} {l0 l1 l2 : Option Value} {v : Int32} {h : jv_H} : jv_ev call 17 41 [l0, l1, l2] [.int v] h = some (some (.int v), h) := je_iret (ty := .int) D17_41 rfl rfl rfl
/-! method 18: DrumMachineModel.tick -/
theorem N18 {d : Nat} {b : Nat} {h : jv_H} : jv_run (d + 1) 18 [.ref b] h = jv_ev (jv_run d) 18 0 [some (.ref b), none] [] h := jv_run_eq (Nat.le_of_ble_eq_true rfl) rfl
theorem D18_0 : decode (jt_code 18) 0 = .ok (.aload_n 0, 1) := by decide +kernel
theorem E18_0 {call : jv_F} {l1 : Option Value} {a : Nat} {st : List Value} {h : jv_H} : jv_ev call 18 0 [some (.ref a), l1] st h = jv_ev call 18 1 [some (.ref a), l1] (.ref a :: st) h := je_aload_n (r := some a) D18_0 rfl rfl
theorem D18_1 : decode (jt_code 18) 1 = .ok (.getfield 142, 3) := by decide +kernel
theorem E18_1 {call : jv_F} {l0 l1 : Option Value}  {st : List Value} {m : Nat} {I : Nat → Int32} {A : Nat → Nat → Int32} {L : Nat → Nat → Int64} {rest : Nat → Option jv_C} {z : Nat × Nat} : jv_ev call 18 1 [l0, l1] (.ref m :: st) (jm_H m I A L rest z) = jv_ev call 18 4 [l0, l1] (.int (I 32) :: st) (jm_H m I A L rest z) := je_get D18_1 rfl (by decide) jm_g32
theorem D18_4 : decode (jt_code 18) 4 = .ok (.ifCond .eq 18, 3) := by decide +kernel
theorem E18_4 {call : jv_F} {l0 l1 : Option Value} {x : Int32} {st : List Value} {h : jv_H} : jv_ev call 18 4 [l0, l1] (.int x :: st) h = if x = 0 then jv_ev call 18 22 [l0, l1] st h else jv_ev call 18 7 [l0, l1] st h := je_ifc D18_4 (by decide) rfl rfl
theorem D18_7 : decode (jt_code 18) 7 = .ok (.aload_n 0, 1) := by decide +kernel
theorem E18_7 {call : jv_F} {l1 : Option Value} {a : Nat} {st : List Value} {h : jv_H} : jv_ev call 18 7 [some (.ref a), l1] st h = jv_ev call 18 8 [some (.ref a), l1] (.ref a :: st) h := je_aload_n (r := some a) D18_7 rfl rfl
theorem D18_8 : decode (jt_code 18) 8 = .ok (.getfield 145, 3) := by decide +kernel
theorem E18_8 {call : jv_F} {l0 l1 : Option Value}  {st : List Value} {m : Nat} {I : Nat → Int32} {A : Nat → Nat → Int32} {L : Nat → Nat → Int64} {rest : Nat → Option jv_C} {z : Nat × Nat} : jv_ev call 18 8 [l0, l1] (.ref m :: st) (jm_H m I A L rest z) = jv_ev call 18 11 [l0, l1] (.int (I 35) :: st) (jm_H m I A L rest z) := je_get D18_8 rfl (by decide) jm_g35
theorem D18_11 : decode (jt_code 18) 11 = .ok (.aload_n 0, 1) := by decide +kernel
theorem E18_11 {call : jv_F} {l1 : Option Value} {a : Nat} {st : List Value} {h : jv_H} : jv_ev call 18 11 [some (.ref a), l1] st h = jv_ev call 18 12 [some (.ref a), l1] (.ref a :: st) h := je_aload_n (r := some a) D18_11 rfl rfl
theorem D18_12 : decode (jt_code 18) 12 = .ok (.getfield 148, 3) := by decide +kernel
theorem E18_12 {call : jv_F} {l0 l1 : Option Value}  {st : List Value} {m : Nat} {I : Nat → Int32} {A : Nat → Nat → Int32} {L : Nat → Nat → Int64} {rest : Nat → Option jv_C} {z : Nat × Nat} : jv_ev call 18 12 [l0, l1] (.ref m :: st) (jm_H m I A L rest z) = jv_ev call 18 15 [l0, l1] (.int (I 36) :: st) (jm_H m I A L rest z) := je_get D18_12 rfl (by decide) jm_g36
theorem D18_15 : decode (jt_code 18) 15 = .ok (.if_icmp .ne 7, 3) := by decide +kernel
theorem E18_15 {call : jv_F} {l0 l1 : Option Value} {x y : Int32} {st : List Value} {h : jv_H} : jv_ev call 18 15 [l0, l1] (.int y :: .int x :: st) h = if ¬ x = y then jv_ev call 18 22 [l0, l1] st h else jv_ev call 18 18 [l0, l1] st h := je_icmp D18_15 (by decide) rfl rfl
theorem D18_18 : decode (jt_code 18) 18 = .ok (.aload_n 0, 1) := by decide +kernel
theorem E18_18 {call : jv_F} {l1 : Option Value} {a : Nat} {st : List Value} {h : jv_H} : jv_ev call 18 18 [some (.ref a), l1] st h = jv_ev call 18 19 [some (.ref a), l1] (.ref a :: st) h := je_aload_n (r := some a) D18_18 rfl rfl
theorem D18_19 : decode (jt_code 18) 19 = .ok (.invokevirtual 151, 3) := by decide +kernel
theorem E18_19 {call : jv_F} {l0 l1 : Option Value}  {st : List Value} {m : Nat} {I : Nat → Int32} {A : Nat → Nat → Int32} {L : Nat → Nat → Int64} {rest : Nat → Option jv_C} {z : Nat × Nat} (hw : jv_wide st = true) (hc : (call 21 [.ref m] (jm_H m I A L rest z)).isSome = true) : jv_ev call 18 19 [l0, l1] (.ref m :: st) (jm_H m I A L rest z) = jv_ev call 18 22 [l0, l1] ((((call 21 [.ref m] (jm_H m I A L rest z)).getD (none, (jm_H m I A L rest z))).1).toList ++ st) ((call 21 [.ref m] (jm_H m I A L rest z)).getD (none, (jm_H m I A L rest z))).2 := by
  obtain ⟨⟨r, h'⟩, hv⟩ := Option.isSome_iff_exists.mp hc
  rw [hv]
  exact je_virt (y := 21) (as := []) D18_19 rfl (by decide) (by decide) rfl jm_cl hw hv
theorem D18_22 : decode (jt_code 18) 22 = .ok (.aload_n 0, 1) := by decide +kernel
theorem E18_22 {call : jv_F} {l1 : Option Value} {a : Nat} {st : List Value} {h : jv_H} : jv_ev call 18 22 [some (.ref a), l1] st h = jv_ev call 18 23 [some (.ref a), l1] (.ref a :: st) h := je_aload_n (r := some a) D18_22 rfl rfl
theorem D18_23 : decode (jt_code 18) 23 = .ok (.invokevirtual 121, 3) := by decide +kernel
theorem E18_23 {call : jv_F} {l0 l1 : Option Value}  {st : List Value} {m : Nat} {I : Nat → Int32} {A : Nat → Nat → Int32} {L : Nat → Nat → Int64} {rest : Nat → Option jv_C} {z : Nat × Nat} (hw : jv_wide st = true) (hc : (call 10 [.ref m] (jm_H m I A L rest z)).isSome = true) : jv_ev call 18 23 [l0, l1] (.ref m :: st) (jm_H m I A L rest z) = jv_ev call 18 26 [l0, l1] ((((call 10 [.ref m] (jm_H m I A L rest z)).getD (none, (jm_H m I A L rest z))).1).toList ++ st) ((call 10 [.ref m] (jm_H m I A L rest z)).getD (none, (jm_H m I A L rest z))).2 := by
  obtain ⟨⟨r, h'⟩, hv⟩ := Option.isSome_iff_exists.mp hc
  rw [hv]
  exact je_virt (y := 10) (as := []) D18_23 rfl (by decide) (by decide) rfl jm_cl hw hv
theorem D18_26 : decode (jt_code 18) 26 = .ok (.ifCond .ge 22, 3) := by decide +kernel
theorem E18_26 {call : jv_F} {l0 l1 : Option Value} {x : Int32} {st : List Value} {h : jv_H} : jv_ev call 18 26 [l0, l1] (.int x :: st) h = if 0 ≤ x then jv_ev call 18 48 [l0, l1] st h else jv_ev call 18 29 [l0, l1] st h := je_ifc D18_26 (by decide) rfl rfl
theorem D18_29 : decode (jt_code 18) 29 = .ok (.aload_n 0, 1) := by decide +kernel
theorem E18_29 {call : jv_F} {l1 : Option Value} {a : Nat} {st : List Value} {h : jv_H} : jv_ev call 18 29 [some (.ref a), l1] st h = jv_ev call 18 30 [some (.ref a), l1] (.ref a :: st) h := je_aload_n (r := some a) D18_29 rfl rfl
theorem D18_30 : decode (jt_code 18) 30 = .ok (.invokevirtual 154, 3) := by decide +kernel
theorem E18_30 {call : jv_F} {l0 l1 : Option Value}  {st : List Value} {m : Nat} {I : Nat → Int32} {A : Nat → Nat → Int32} {L : Nat → Nat → Int64} {rest : Nat → Option jv_C} {z : Nat × Nat} (hw : jv_wide st = true) (hc : (call 19 [.ref m] (jm_H m I A L rest z)).isSome = true) : jv_ev call 18 30 [l0, l1] (.ref m :: st) (jm_H m I A L rest z) = jv_ev call 18 33 [l0, l1] ((((call 19 [.ref m] (jm_H m I A L rest z)).getD (none, (jm_H m I A L rest z))).1).toList ++ st) ((call 19 [.ref m] (jm_H m I A L rest z)).getD (none, (jm_H m I A L rest z))).2 := by
  obtain ⟨⟨r, h'⟩, hv⟩ := Option.isSome_iff_exists.mp hc
  rw [hv]
  exact je_virt (y := 19) (as := []) D18_30 rfl (by decide) (by decide) rfl jm_cl hw hv
theorem D18_33 : decode (jt_code 18) 33 = .ok (.ifCond .ne 15, 3) := by decide +kernel
theorem E18_33 {call : jv_F} {l0 l1 : Option Value} {x : Int32} {st : List Value} {h : jv_H} : jv_ev call 18 33 [l0, l1] (.int x :: st) h = if ¬ x = 0 then jv_ev call 18 48 [l0, l1] st h else jv_ev call 18 36 [l0, l1] st h := je_ifc D18_33 (by decide) rfl rfl
theorem D18_36 : decode (jt_code 18) 36 = .ok (.aload_n 0, 1) := by decide +kernel
theorem E18_36 {call : jv_F} {l1 : Option Value} {a : Nat} {st : List Value} {h : jv_H} : jv_ev call 18 36 [some (.ref a), l1] st h = jv_ev call 18 37 [some (.ref a), l1] (.ref a :: st) h := je_aload_n (r := some a) D18_36 rfl rfl
theorem D18_37 : decode (jt_code 18) 37 = .ok (.getfield 142, 3) := by decide +kernel
theorem E18_37 {call : jv_F} {l0 l1 : Option Value}  {st : List Value} {m : Nat} {I : Nat → Int32} {A : Nat → Nat → Int32} {L : Nat → Nat → Int64} {rest : Nat → Option jv_C} {z : Nat × Nat} : jv_ev call 18 37 [l0, l1] (.ref m :: st) (jm_H m I A L rest z) = jv_ev call 18 40 [l0, l1] (.int (I 32) :: st) (jm_H m I A L rest z) := je_get D18_37 rfl (by decide) jm_g32
theorem D18_40 : decode (jt_code 18) 40 = .ok (.iconst 2, 1) := by decide +kernel
theorem E18_40 {call : jv_F} {l0 l1 : Option Value}  {st : List Value} {h : jv_H} : jv_ev call 18 40 [l0, l1] st h = jv_ev call 18 41 [l0, l1] (.int (nI 2) :: st) h := je_iconst D18_40 rfl (by decide)
theorem D18_41 : decode (jt_code 18) 41 = .ok (.if_icmp .eq 7, 3) := by decide +kernel
theorem E18_41 {call : jv_F} {l0 l1 : Option Value} {x y : Int32} {st : List Value} {h : jv_H} : jv_ev call 18 41 [l0, l1] (.int y :: .int x :: st) h = if x = y then jv_ev call 18 48 [l0, l1] st h else jv_ev call 18 44 [l0, l1] st h := je_icmp D18_41 (by decide) rfl rfl
theorem D18_44 : decode (jt_code 18) 44 = .ok (.aload_n 0, 1) := by decide +kernel
theorem E18_44 {call : jv_F} {l1 : Option Value} {a : Nat} {st : List Value} {h : jv_H} : jv_ev call 18 44 [some (.ref a), l1] st h = jv_ev call 18 45 [some (.ref a), l1] (.ref a :: st) h := je_aload_n (r := some a) D18_44 rfl rfl
theorem D18_45 : decode (jt_code 18) 45 = .ok (.invokevirtual 158, 3) := by decide +kernel
theorem E18_45 {call : jv_F} {l0 l1 : Option Value}  {st : List Value} {m : Nat} {I : Nat → Int32} {A : Nat → Nat → Int32} {L : Nat → Nat → Int64} {rest : Nat → Option jv_C} {z : Nat × Nat} (hw : jv_wide st = true) (hc : (call 24 [.ref m] (jm_H m I A L rest z)).isSome = true) : jv_ev call 18 45 [l0, l1] (.ref m :: st) (jm_H m I A L rest z) = jv_ev call 18 48 [l0, l1] ((((call 24 [.ref m] (jm_H m I A L rest z)).getD (none, (jm_H m I A L rest z))).1).toList ++ st) ((call 24 [.ref m] (jm_H m I A L rest z)).getD (none, (jm_H m I A L rest z))).2 := by
  obtain ⟨⟨r, h'⟩, hv⟩ := Option.isSome_iff_exists.mp hc
  rw [hv]
  exact je_virt (y := 24) (as := []) D18_45 rfl (by decide) (by decide) rfl jm_cl hw hv
theorem D18_48 : decode (jt_code 18) 48 = .ok (.aload_n 0, 1) := by decide +kernel
theorem E18_48 {call : jv_F} {l1 : Option Value} {a : Nat} {st : List Value} {h : jv_H} : jv_ev call 18 48 [some (.ref a), l1] st h = jv_ev call 18 49 [some (.ref a), l1] (.ref a :: st) h := je_aload_n (r := some a) D18_48 rfl rfl
theorem D18_49 : decode (jt_code 18) 49 = .ok (.getfield 142, 3) := by decide +kernel
theorem E18_49 {call : jv_F} {l0 l1 : Option Value}  {st : List Value} {m : Nat} {I : Nat → Int32} {A : Nat → Nat → Int32} {L : Nat → Nat → Int64} {rest : Nat → Option jv_C} {z : Nat × Nat} : jv_ev call 18 49 [l0, l1] (.ref m :: st) (jm_H m I A L rest z) = jv_ev call 18 52 [l0, l1] (.int (I 32) :: st) (jm_H m I A L rest z) := je_get D18_49 rfl (by decide) jm_g32
theorem D18_52 : decode (jt_code 18) 52 = .ok (.ifCond .ne 14, 3) := by decide +kernel
theorem E18_52 {call : jv_F} {l0 l1 : Option Value} {x : Int32} {st : List Value} {h : jv_H} : jv_ev call 18 52 [l0, l1] (.int x :: st) h = if ¬ x = 0 then jv_ev call 18 66 [l0, l1] st h else jv_ev call 18 55 [l0, l1] st h := je_ifc D18_52 (by decide) rfl rfl
theorem D18_55 : decode (jt_code 18) 55 = .ok (.aload_n 0, 1) := by decide +kernel
theorem E18_55 {call : jv_F} {l1 : Option Value} {a : Nat} {st : List Value} {h : jv_H} : jv_ev call 18 55 [some (.ref a), l1] st h = jv_ev call 18 56 [some (.ref a), l1] (.ref a :: st) h := je_aload_n (r := some a) D18_55 rfl rfl
theorem D18_56 : decode (jt_code 18) 56 = .ok (.getfield 161, 3) := by decide +kernel
theorem E18_56 {call : jv_F} {l0 l1 : Option Value}  {st : List Value} {m : Nat} {I : Nat → Int32} {A : Nat → Nat → Int32} {L : Nat → Nat → Int64} {rest : Nat → Option jv_C} {z : Nat × Nat} : jv_ev call 18 56 [l0, l1] (.ref m :: st) (jm_H m I A L rest z) = jv_ev call 18 59 [l0, l1] (.int (I 31) :: st) (jm_H m I A L rest z) := je_get D18_56 rfl (by decide) jm_g31
theorem D18_59 : decode (jt_code 18) 59 = .ok (.ifCond .le 7, 3) := by decide +kernel
theorem E18_59 {call : jv_F} {l0 l1 : Option Value} {x : Int32} {st : List Value} {h : jv_H} : jv_ev call 18 59 [l0, l1] (.int x :: st) h = if x ≤ 0 then jv_ev call 18 66 [l0, l1] st h else jv_ev call 18 62 [l0, l1] st h := je_ifc D18_59 (by decide) rfl rfl
theorem D18_62 : decode (jt_code 18) 62 = .ok (.aload_n 0, 1) := by decide +kernel
theorem E18_62 {call : jv_F} {l1 : Option Value} {a : Nat} {st : List Value} {h : jv_H} : jv_ev call 18 62 [some (.ref a), l1] st h = jv_ev call 18 63 [some (.ref a), l1] (.ref a :: st) h := je_aload_n (r := some a) D18_62 rfl rfl
theorem D18_63 : decode (jt_code 18) 63 = .ok (.invokevirtual 164, 3) := by decide +kernel
theorem E18_63 {call : jv_F} {l0 l1 : Option Value}  {st : List Value} {m : Nat} {I : Nat → Int32} {A : Nat → Nat → Int32} {L : Nat → Nat → Int64} {rest : Nat → Option jv_C} {z : Nat × Nat} (hw : jv_wide st = true) (hc : (call 28 [.ref m] (jm_H m I A L rest z)).isSome = true) : jv_ev call 18 63 [l0, l1] (.ref m :: st) (jm_H m I A L rest z) = jv_ev call 18 66 [l0, l1] ((((call 28 [.ref m] (jm_H m I A L rest z)).getD (none, (jm_H m I A L rest z))).1).toList ++ st) ((call 28 [.ref m] (jm_H m I A L rest z)).getD (none, (jm_H m I A L rest z))).2 := by
  obtain ⟨⟨r, h'⟩, hv⟩ := Option.isSome_iff_exists.mp hc
  rw [hv]
  exact je_virt (y := 28) (as := []) D18_63 rfl (by decide) (by decide) rfl jm_cl hw hv
theorem D18_66 : decode (jt_code 18) 66 = .ok (.aload_n 0, 1) := by decide +kernel
theorem E18_66 {call : jv_F} {l1 : Option Value} {a : Nat} {st : List Value} {h : jv_H} : jv_ev call 18 66 [some (.ref a), l1] st h = jv_ev call 18 67 [some (.ref a), l1] (.ref a :: st) h := je_aload_n (r := some a) D18_66 rfl rfl
theorem D18_67 : decode (jt_code 18) 67 = .ok (.invokevirtual 167, 3) := by decide +kernel
theorem E18_67 {call : jv_F} {l0 l1 : Option Value}  {st : List Value} {m : Nat} {I : Nat → Int32} {A : Nat → Nat → Int32} {L : Nat → Nat → Int64} {rest : Nat → Option jv_C} {z : Nat × Nat} (hw : jv_wide st = true) (hc : (call 29 [.ref m] (jm_H m I A L rest z)).isSome = true) : jv_ev call 18 67 [l0, l1] (.ref m :: st) (jm_H m I A L rest z) = jv_ev call 18 70 [l0, l1] ((((call 29 [.ref m] (jm_H m I A L rest z)).getD (none, (jm_H m I A L rest z))).1).toList ++ st) ((call 29 [.ref m] (jm_H m I A L rest z)).getD (none, (jm_H m I A L rest z))).2 := by
  obtain ⟨⟨r, h'⟩, hv⟩ := Option.isSome_iff_exists.mp hc
  rw [hv]
  exact je_virt (y := 29) (as := []) D18_67 rfl (by decide) (by decide) rfl jm_cl hw hv
theorem D18_70 : decode (jt_code 18) 70 = .ok (.istore_n 1, 1) := by decide +kernel
theorem E18_70 {call : jv_F} {l0 l1 : Option Value} {x : Int32} {st : List Value} {h : jv_H} (hk : ¬ jv_is2 (some l0) = true) : jv_ev call 18 70 [l0, l1] (.int x :: st) h = jv_ev call 18 71 [l0, some (.int x)] st h := je_istore_n D18_70 rfl (Nat.le_of_ble_eq_true rfl) (by show jv_st1 _ 1 _ = _; simp only [jv_st1, jv_kill, List.getElem?_cons_succ, List.getElem?_cons_zero, hk, if_false]; rfl)
theorem D18_71 : decode (jt_code 18) 71 = .ok (.iload_n 1, 1) := by decide +kernel
theorem E18_71 {call : jv_F} {l0 : Option Value} {x : Int32} {st : List Value} {h : jv_H} : jv_ev call 18 71 [l0, some (.int x)] st h = jv_ev call 18 72 [l0, some (.int x)] (.int x :: st) h := je_iload_n D18_71 rfl rfl
theorem D18_72 : decode (jt_code 18) 72 = .ok (.ifCond .ge 16, 3) := by decide +kernel
theorem E18_72 {call : jv_F} {l0 l1 : Option Value} {x : Int32} {st : List Value} {h : jv_H} : jv_ev call 18 72 [l0, l1] (.int x :: st) h = if 0 ≤ x then jv_ev call 18 88 [l0, l1] st h else jv_ev call 18 75 [l0, l1] st h := je_ifc D18_72 (by decide) rfl rfl
theorem D18_75 : decode (jt_code 18) 75 = .ok (.aload_n 0, 1) := by decide +kernel
theorem E18_75 {call : jv_F} {l1 : Option Value} {a : Nat} {st : List Value} {h : jv_H} : jv_ev call 18 75 [some (.ref a), l1] st h = jv_ev call 18 76 [some (.ref a), l1] (.ref a :: st) h := je_aload_n (r := some a) D18_75 rfl rfl
theorem D18_76 : decode (jt_code 18) 76 = .ok (.dup, 1) := by decide +kernel
theorem E18_76 {call : jv_F} {l0 l1 : Option Value} {a : Nat} {st : List Value} {h : jv_H} : jv_ev call 18 76 [l0, l1] (.ref a :: st) h = jv_ev call 18 77 [l0, l1] (.ref a :: .ref a :: st) h := je_dup D18_76 rfl rfl
theorem E18_76i {call : jv_F} {l0 l1 : Option Value} {x : Int32} {st : List Value} {h : jv_H} : jv_ev call 18 76 [l0, l1] (.int x :: st) h = jv_ev call 18 77 [l0, l1] (.int x :: .int x :: st) h := je_dup D18_76 rfl rfl
theorem D18_77 : decode (jt_code 18) 77 = .ok (.getfield 170, 3) := by decide +kernel
theorem E18_77 {call : jv_F} {l0 l1 : Option Value}  {st : List Value} {m : Nat} {I : Nat → Int32} {A : Nat → Nat → Int32} {L : Nat → Nat → Int64} {rest : Nat → Option jv_C} {z : Nat × Nat} : jv_ev call 18 77 [l0, l1] (.ref m :: st) (jm_H m I A L rest z) = jv_ev call 18 80 [l0, l1] (.int (I 41) :: st) (jm_H m I A L rest z) := je_get D18_77 rfl (by decide) jm_g41
theorem D18_80 : decode (jt_code 18) 80 = .ok (.iconst 1, 1) := by decide +kernel
theorem E18_80 {call : jv_F} {l0 l1 : Option Value}  {st : List Value} {h : jv_H} : jv_ev call 18 80 [l0, l1] st h = jv_ev call 18 81 [l0, l1] (.int (nI 1) :: st) h := je_iconst D18_80 rfl (by decide)
theorem D18_81 : decode (jt_code 18) 81 = .ok (.iadd, 1) := by decide +kernel
theorem E18_81 {call : jv_F} {l0 l1 : Option Value} {x y : Int32} {st : List Value} {h : jv_H} : jv_ev call 18 81 [l0, l1] (.int y :: .int x :: st) h = jv_ev call 18 82 [l0, l1] (.int (x + y) :: st) h := je_b2 (f := fun x y => x + y) D18_81 rfl (fun _ => rfl)
theorem D18_82 : decode (jt_code 18) 82 = .ok (.putfield 170, 3) := by decide +kernel
theorem E18_82 {call : jv_F} {l0 l1 : Option Value} {v : Int32} {st : List Value} {m : Nat} {I : Nat → Int32} {A : Nat → Nat → Int32} {L : Nat → Nat → Int64} {rest : Nat → Option jv_C} {z : Nat × Nat} : jv_ev call 18 82 [l0, l1] (.int v :: .ref m :: st) (jm_H m I A L rest z) = jv_ev call 18 85 [l0, l1] st (jm_H m (upd I 41 v) A L rest z) := je_put D18_82 rfl (by decide) (by decide) jm_p41
theorem D18_85 : decode (jt_code 18) 85 = .ok (.goto 13, 3) := by decide +kernel
theorem E18_85 {call : jv_F} {l0 l1 : Option Value}  {st : List Value} {h : jv_H} : jv_ev call 18 85 [l0, l1] st h = jv_ev call 18 98 [l0, l1] st h := je_goto D18_85 (by decide)
theorem D18_88 : decode (jt_code 18) 88 = .ok (.aload_n 0, 1) := by decide +kernel
theorem E18_88 {call : jv_F} {l1 : Option Value} {a : Nat} {st : List Value} {h : jv_H} : jv_ev call 18 88 [some (.ref a), l1] st h = jv_ev call 18 89 [some (.ref a), l1] (.ref a :: st) h := je_aload_n (r := some a) D18_88 rfl rfl
theorem D18_89 : decode (jt_code 18) 89 = .ok (.iload_n 1, 1) := by decide +kernel
theorem E18_89 {call : jv_F} {l0 : Option Value} {x : Int32} {st : List Value} {h : jv_H} : jv_ev call 18 89 [l0, some (.int x)] st h = jv_ev call 18 90 [l0, some (.int x)] (.int x :: st) h := je_iload_n D18_89 rfl rfl
theorem D18_90 : decode (jt_code 18) 90 = .ok (.putfield 94, 3) := by decide +kernel
theorem E18_90 {call : jv_F} {l0 l1 : Option Value} {v : Int32} {st : List Value} {m : Nat} {I : Nat → Int32} {A : Nat → Nat → Int32} {L : Nat → Nat → Int64} {rest : Nat → Option jv_C} {z : Nat × Nat} : jv_ev call 18 90 [l0, l1] (.int v :: .ref m :: st) (jm_H m I A L rest z) = jv_ev call 18 93 [l0, l1] st (jm_H m (upd I 37 v) A L rest z) := je_put D18_90 rfl (by decide) (by decide) jm_p37
theorem D18_93 : decode (jt_code 18) 93 = .ok (.aload_n 0, 1) := by decide +kernel
theorem E18_93 {call : jv_F} {l1 : Option Value} {a : Nat} {st : List Value} {h : jv_H} : jv_ev call 18 93 [some (.ref a), l1] st h = jv_ev call 18 94 [some (.ref a), l1] (.ref a :: st) h := je_aload_n (r := some a) D18_93 rfl rfl
theorem D18_94 : decode (jt_code 18) 94 = .ok (.iload_n 1, 1) := by decide +kernel
theorem E18_94 {call : jv_F} {l0 : Option Value} {x : Int32} {st : List Value} {h : jv_H} : jv_ev call 18 94 [l0, some (.int x)] st h = jv_ev call 18 95 [l0, some (.int x)] (.int x :: st) h := je_iload_n D18_94 rfl rfl
theorem D18_95 : decode (jt_code 18) 95 = .ok (.invokevirtual 173, 3) := by decide +kernel
theorem E18_95 {call : jv_F} {l0 l1 : Option Value} {v0 : Value}  {st : List Value} {m : Nat} {I : Nat → Int32} {A : Nat → Nat → Int32} {L : Nat → Nat → Int64} {rest : Nat → Option jv_C} {z : Nat × Nat} (hw : jv_wide st = true) (hc : (call 35 [.ref m, v0] (jm_H m I A L rest z)).isSome = true) : jv_ev call 18 95 [l0, l1] (v0 :: .ref m :: st) (jm_H m I A L rest z) = jv_ev call 18 98 [l0, l1] ((((call 35 [.ref m, v0] (jm_H m I A L rest z)).getD (none, (jm_H m I A L rest z))).1).toList ++ st) ((call 35 [.ref m, v0] (jm_H m I A L rest z)).getD (none, (jm_H m I A L rest z))).2 := by
  obtain ⟨⟨r, h'⟩, hv⟩ := Option.isSome_iff_exists.mp hc
  rw [hv]
  exact je_virt (y := 35) (as := [v0]) D18_95 rfl (by decide) (by decide) rfl jm_cl hw hv
theorem D18_98 : decode (jt_code 18) 98 = .ok (.aload_n 0, 1) := by decide +kernel
theorem E18_98 {call : jv_F} {l1 : Option Value} {a : Nat} {st : List Value} {h : jv_H} : jv_ev call 18 98 [some (.ref a), l1] st h = jv_ev call 18 99 [some (.ref a), l1] (.ref a :: st) h := je_aload_n (r := some a) D18_98 rfl rfl
theorem D18_99 : decode (jt_code 18) 99 = .ok (.dup, 1) := by decide +kernel
theorem E18_99 {call : jv_F} {l0 l1 : Option Value} {a : Nat} {st : List Value} {h : jv_H} : jv_ev call 18 99 [l0, l1] (.ref a :: st) h = jv_ev call 18 100 [l0, l1] (.ref a :: .ref a :: st) h := je_dup D18_99 rfl rfl
theorem E18_99i {call : jv_F} {l0 l1 : Option Value} {x : Int32} {st : List Value} {h : jv_H} : jv_ev call 18 99 [l0, l1] (.int x :: st) h = jv_ev call 18 100 [l0, l1] (.int x :: .int x :: st) h := je_dup D18_99 rfl rfl
theorem D18_100 : decode (jt_code 18) 100 = .ok (.getfield 148, 3) := by decide +kernel
theorem E18_100 {call : jv_F} {l0 l1 : Option Value}  {st : List Value} {m : Nat} {I : Nat → Int32} {A : Nat → Nat → Int32} {L : Nat → Nat → Int64} {rest : Nat → Option jv_C} {z : Nat × Nat} : jv_ev call 18 100 [l0, l1] (.ref m :: st) (jm_H m I A L rest z) = jv_ev call 18 103 [l0, l1] (.int (I 36) :: st) (jm_H m I A L rest z) := je_get D18_100 rfl (by decide) jm_g36
theorem D18_103 : decode (jt_code 18) 103 = .ok (.iconst 1, 1) := by decide +kernel
theorem E18_103 {call : jv_F} {l0 l1 : Option Value}  {st : List Value} {h : jv_H} : jv_ev call 18 103 [l0, l1] st h = jv_ev call 18 104 [l0, l1] (.int (nI 1) :: st) h := je_iconst D18_103 rfl (by decide)
theorem D18_104 : decode (jt_code 18) 104 = .ok (.iadd, 1) := by decide +kernel
theorem E18_104 {call : jv_F} {l0 l1 : Option Value} {x y : Int32} {st : List Value} {h : jv_H} : jv_ev call 18 104 [l0, l1] (.int y :: .int x :: st) h = jv_ev call 18 105 [l0, l1] (.int (x + y) :: st) h := je_b2 (f := fun x y => x + y) D18_104 rfl (fun _ => rfl)
theorem D18_105 : decode (jt_code 18) 105 = .ok (.putfield 148, 3) := by decide +kernel
theorem E18_105 {call : jv_F} {l0 l1 : Option Value} {v : Int32} {st : List Value} {m : Nat} {I : Nat → Int32} {A : Nat → Nat → Int32} {L : Nat → Nat → Int64} {rest : Nat → Option jv_C} {z : Nat × Nat} : jv_ev call 18 105 [l0, l1] (.int v :: .ref m :: st) (jm_H m I A L rest z) = jv_ev call 18 108 [l0, l1] st (jm_H m (upd I 36 v) A L rest z) := je_put D18_105 rfl (by decide) (by decide) jm_p36
theorem D18_108 : decode (jt_code 18) 108 = .ok (.return_, 1) := by decide +kernel
theorem E18_108 {call : jv_F} {l0 l1 : Option Value}  {h : jv_H} : jv_ev call 18 108 [l0, l1] [] h = some (none, h) := je_ret D18_108 rfl
/-! method 19: DrumMachineModel.isWriteAsked -/
theorem N19 {d : Nat} {b : Nat} {h : jv_H} : jv_run (d + 1) 19 [.ref b] h = jv_ev (jv_run d) 19 0 [some (.ref b), none] [] h := jv_run_eq (Nat.le_of_ble_eq_true rfl) rfl
theorem D19_0 : decode (jt_code 19) 0 = .ok (.iconst 0, 1) := by decide +kernel
theorem E19_0 {call : jv_F} {l0 l1 : Option Value}  {st : List Value} {h : jv_H} : jv_ev call 19 0 [l0, l1] st h = jv_ev call 19 1 [l0, l1] (.int (nI 0) :: st) h := je_iconst D19_0 rfl (by decide)
theorem D19_1 : decode (jt_code 19) 1 = .ok (.istore_n 1, 1) := by decide +kernel
theorem E19_1 {call : jv_F} {l0 l1 : Option Value} {x : Int32} {st : List Value} {h : jv_H} (hk : ¬ jv_is2 (some l0) = true) : jv_ev call 19 1 [l0, l1] (.int x :: st) h = jv_ev call 19 2 [l0, some (.int x)] st h := je_istore_n D19_1 rfl (Nat.le_of_ble_eq_true rfl) (by show jv_st1 _ 1 _ = _; simp only [jv_st1, jv_kill, List.getElem?_cons_succ, List.getElem?_cons_zero, hk, if_false]; rfl)
theorem D19_2 : decode (jt_code 19) 2 = .ok (.iload_n 1, 1) := by decide +kernel
theorem E19_2 {call : jv_F} {l0 : Option Value} {x : Int32} {st : List Value} {h : jv_H} : jv_ev call 19 2 [l0, some (.int x)] st h = jv_ev call 19 3 [l0, some (.int x)] (.int x :: st) h := je_iload_n D19_2 rfl rfl
theorem D19_3 : decode (jt_code 19) 3 = .ok (.aload_n 0, 1) := by decide +kernel
theorem E19_3 {call : jv_F} {l1 : Option Value} {a : Nat} {st : List Value} {h : jv_H} : jv_ev call 19 3 [some (.ref a), l1] st h = jv_ev call 19 4 [some (.ref a), l1] (.ref a :: st) h := je_aload_n (r := some a) D19_3 rfl rfl
theorem D19_4 : decode (jt_code 19) 4 = .ok (.getfield 161, 3) := by decide +kernel
theorem E19_4 {call : jv_F} {l0 l1 : Option Value}  {st : List Value} {m : Nat} {I : Nat → Int32} {A : Nat → Nat → Int32} {L : Nat → Nat → Int64} {rest : Nat → Option jv_C} {z : Nat × Nat} : jv_ev call 19 4 [l0, l1] (.ref m :: st) (jm_H m I A L rest z) = jv_ev call 19 7 [l0, l1] (.int (I 31) :: st) (jm_H m I A L rest z) := je_get D19_4 rfl (by decide) jm_g31
theorem D19_7 : decode (jt_code 19) 7 = .ok (.if_icmp .ge 21, 3) := by decide +kernel
theorem E19_7 {call : jv_F} {l0 l1 : Option Value} {x y : Int32} {st : List Value} {h : jv_H} : jv_ev call 19 7 [l0, l1] (.int y :: .int x :: st) h = if y ≤ x then jv_ev call 19 28 [l0, l1] st h else jv_ev call 19 10 [l0, l1] st h := je_icmp D19_7 (by decide) rfl rfl
theorem D19_10 : decode (jt_code 19) 10 = .ok (.aload_n 0, 1) := by decide +kernel
theorem E19_10 {call : jv_F} {l1 : Option Value} {a : Nat} {st : List Value} {h : jv_H} : jv_ev call 19 10 [some (.ref a), l1] st h = jv_ev call 19 11 [some (.ref a), l1] (.ref a :: st) h := je_aload_n (r := some a) D19_10 rfl rfl
theorem D19_11 : decode (jt_code 19) 11 = .ok (.getfield 88, 3) := by decide +kernel
theorem E19_11 {call : jv_F} {l0 l1 : Option Value}  {st : List Value} {m : Nat} {I : Nat → Int32} {A : Nat → Nat → Int32} {L : Nat → Nat → Int64} {rest : Nat → Option jv_C} {z : Nat × Nat} : jv_ev call 19 11 [l0, l1] (.ref m :: st) (jm_H m I A L rest z) = jv_ev call 19 14 [l0, l1] (.ref (m + 25) :: st) (jm_H m I A L rest z) := je_get D19_11 rfl (by decide) jm_g29
theorem D19_14 : decode (jt_code 19) 14 = .ok (.iload_n 1, 1) := by decide +kernel
theorem E19_14 {call : jv_F} {l0 : Option Value} {x : Int32} {st : List Value} {h : jv_H} : jv_ev call 19 14 [l0, some (.int x)] st h = jv_ev call 19 15 [l0, some (.int x)] (.int x :: st) h := je_iload_n D19_14 rfl rfl
theorem D19_15 : decode (jt_code 19) 15 = .ok (.iaload, 1) := by decide +kernel
theorem E19_15 {call : jv_F} {l0 l1 : Option Value} {i : Nat} {st : List Value} {m : Nat} {I : Nat → Int32} {A : Nat → Nat → Int32} {L : Nat → Nat → Int64} {rest : Nat → Option jv_C} {z : Nat × Nat} (hi : i < 18) : jv_ev call 19 15 [l0, l1] (.int (nI i) :: .ref (m + 25) :: st) (jm_H m I A L rest z) = jv_ev call 19 16 [l0, l1] (.int (A 29 i) :: st) (jm_H m I A L rest z) := je_iald D19_15 rfl (jm_l29 hi)
theorem D19_16 : decode (jt_code 19) 16 = .ok (.iconst 2, 1) := by decide +kernel
theorem E19_16 {call : jv_F} {l0 l1 : Option Value}  {st : List Value} {h : jv_H} : jv_ev call 19 16 [l0, l1] st h = jv_ev call 19 17 [l0, l1] (.int (nI 2) :: st) h := je_iconst D19_16 rfl (by decide)
theorem D19_17 : decode (jt_code 19) 17 = .ok (.if_icmp .ne 5, 3) := by decide +kernel
theorem E19_17 {call : jv_F} {l0 l1 : Option Value} {x y : Int32} {st : List Value} {h : jv_H} : jv_ev call 19 17 [l0, l1] (.int y :: .int x :: st) h = if ¬ x = y then jv_ev call 19 22 [l0, l1] st h else jv_ev call 19 20 [l0, l1] st h := je_icmp D19_17 (by decide) rfl rfl
theorem D19_20 : decode (jt_code 19) 20 = .ok (.iconst 1, 1) := by decide +kernel
theorem E19_20 {call : jv_F} {l0 l1 : Option Value}  {st : List Value} {h : jv_H} : jv_ev call 19 20 [l0, l1] st h = jv_ev call 19 21 [l0, l1] (.int (nI 1) :: st) h := je_iconst D19_20 rfl (by decide)
theorem D19_21 : decode (jt_code 19) 21 = .ok (.ireturn, 1) := by decide +kernel
theorem E19_21 {call : jv_F} {l0 l1 : Option Value} {v : Int32} {h : jv_H} (hn : narrow .boolean (.int v) = .int v) (hf : fits .boolean (.int v) = true) : jv_ev call 19 21 [l0, l1] [.int v] h = some (some (.int v), h) := je_iret (ty := .boolean) D19_21 rfl hn hf
theorem D19_22 : decode (jt_code 19) 22 = .ok (.iinc 1 1, 3) := by decide +kernel
theorem E19_22 {call : jv_F} {l0 : Option Value} {x : Int32} {st : List Value} {h : jv_H} (hk : ¬ jv_is2 (some l0) = true) : jv_ev call 19 22 [l0, some (.int x)] st h = jv_ev call 19 25 [l0, some (.int (x + (nI 1)))] st h := je_iinc D19_22 rfl rfl (v := x + (nI 1)) (by rfl) (by show jv_st1 _ 1 _ = _; simp only [jv_st1, jv_kill, List.getElem?_cons_succ, List.getElem?_cons_zero, hk, if_false]; rfl)
theorem D19_25 : decode (jt_code 19) 25 = .ok (.goto (-23), 3) := by decide +kernel
theorem E19_25 {call : jv_F} {l0 l1 : Option Value}  {st : List Value} {h : jv_H} : jv_ev call 19 25 [l0, l1] st h = jv_ev call 19 2 [l0, l1] st h := je_goto D19_25 (by decide)
theorem D19_28 : decode (jt_code 19) 28 = .ok (.iconst 0, 1) := by decide +kernel
theorem E19_28 {call : jv_F} {l0 l1 : Option Value}  {st : List Value} {h : jv_H} : jv_ev call 19 28 [l0, l1] st h = jv_ev call 19 29 [l0, l1] (.int (nI 0) :: st) h := je_iconst D19_28 rfl (by decide)
theorem D19_29 : decode (jt_code 19) 29 = .ok (.ireturn, 1) := by decide +kernel
theorem E19_29 {call : jv_F} {l0 l1 : Option Value} {v : Int32} {h : jv_H} (hn : narrow .boolean (.int v) = .int v) (hf : fits .boolean (.int v) = true) : jv_ev call 19 29 [l0, l1] [.int v] h = some (some (.int v), h) := je_iret (ty := .boolean) D19_29 rfl hn hf
/-! method 20: DrumMachineModel.leave -/
theorem N20 {d : Nat} {b : Nat} {a0 : Int32} {h : jv_H} : jv_run (d + 1) 20 [.ref b, .int a0] h = jv_ev (jv_run d) 20 0 [some (.ref b), some (.int a0)] [] h := jv_run_eq (Nat.le_of_ble_eq_true rfl) rfl
theorem D20_0 : decode (jt_code 20) 0 = .ok (.aload_n 0, 1) := by decide +kernel
theorem E20_0 {call : jv_F} {l1 : Option Value} {a : Nat} {st : List Value} {h : jv_H} : jv_ev call 20 0 [some (.ref a), l1] st h = jv_ev call 20 1 [some (.ref a), l1] (.ref a :: st) h := je_aload_n (r := some a) D20_0 rfl rfl
theorem D20_1 : decode (jt_code 20) 1 = .ok (.getfield 70, 3) := by decide +kernel
theorem E20_1 {call : jv_F} {l0 l1 : Option Value}  {st : List Value} {m : Nat} {I : Nat → Int32} {A : Nat → Nat → Int32} {L : Nat → Nat → Int64} {rest : Nat → Option jv_C} {z : Nat × Nat} : jv_ev call 20 1 [l0, l1] (.ref m :: st) (jm_H m I A L rest z) = jv_ev call 20 4 [l0, l1] (.ref (m + 19) :: st) (jm_H m I A L rest z) := je_get D20_1 rfl (by decide) jm_g23
theorem D20_4 : decode (jt_code 20) 4 = .ok (.iload_n 1, 1) := by decide +kernel
theorem E20_4 {call : jv_F} {l0 : Option Value} {x : Int32} {st : List Value} {h : jv_H} : jv_ev call 20 4 [l0, some (.int x)] st h = jv_ev call 20 5 [l0, some (.int x)] (.int x :: st) h := je_iload_n D20_4 rfl rfl
theorem D20_5 : decode (jt_code 20) 5 = .ok (.iconst (-1), 1) := by decide +kernel
theorem E20_5 {call : jv_F} {l0 l1 : Option Value}  {st : List Value} {h : jv_H} : jv_ev call 20 5 [l0, l1] st h = jv_ev call 20 6 [l0, l1] (.int (-1) :: st) h := je_iconst D20_5 rfl (by decide)
theorem D20_6 : decode (jt_code 20) 6 = .ok (.iastore, 1) := by decide +kernel
theorem E20_6 {call : jv_F} {l0 l1 : Option Value} {i : Nat} {v : Int32} {st : List Value} {m : Nat} {I : Nat → Int32} {A : Nat → Nat → Int32} {L : Nat → Nat → Int64} {rest : Nat → Option jv_C} {z : Nat × Nat} (hi : i < 17) : jv_ev call 20 6 [l0, l1] (.int v :: .int (nI i) :: .ref (m + 19) :: st) (jm_H m I A L rest z) = jv_ev call 20 7 [l0, l1] st (jm_H m I (va_up A 23 (upd (A 23) i v)) L rest z) := je_iast D20_6 rfl (jm_s23 hi)
theorem D20_7 : decode (jt_code 20) 7 = .ok (.aload_n 0, 1) := by decide +kernel
theorem E20_7 {call : jv_F} {l1 : Option Value} {a : Nat} {st : List Value} {h : jv_H} : jv_ev call 20 7 [some (.ref a), l1] st h = jv_ev call 20 8 [some (.ref a), l1] (.ref a :: st) h := je_aload_n (r := some a) D20_7 rfl rfl
theorem D20_8 : decode (jt_code 20) 8 = .ok (.getfield 79, 3) := by decide +kernel
theorem E20_8 {call : jv_F} {l0 l1 : Option Value}  {st : List Value} {m : Nat} {I : Nat → Int32} {A : Nat → Nat → Int32} {L : Nat → Nat → Int64} {rest : Nat → Option jv_C} {z : Nat × Nat} : jv_ev call 20 8 [l0, l1] (.ref m :: st) (jm_H m I A L rest z) = jv_ev call 20 11 [l0, l1] (.ref (m + 22) :: st) (jm_H m I A L rest z) := je_get D20_8 rfl (by decide) jm_g26
theorem D20_11 : decode (jt_code 20) 11 = .ok (.iload_n 1, 1) := by decide +kernel
theorem E20_11 {call : jv_F} {l0 : Option Value} {x : Int32} {st : List Value} {h : jv_H} : jv_ev call 20 11 [l0, some (.int x)] st h = jv_ev call 20 12 [l0, some (.int x)] (.int x :: st) h := je_iload_n D20_11 rfl rfl
theorem D20_12 : decode (jt_code 20) 12 = .ok (.iconst 0, 1) := by decide +kernel
theorem E20_12 {call : jv_F} {l0 l1 : Option Value}  {st : List Value} {h : jv_H} : jv_ev call 20 12 [l0, l1] st h = jv_ev call 20 13 [l0, l1] (.int (nI 0) :: st) h := je_iconst D20_12 rfl (by decide)
theorem D20_13 : decode (jt_code 20) 13 = .ok (.bastore, 1) := by decide +kernel
theorem E20_13 {call : jv_F} {l0 l1 : Option Value} {i : Nat} {v : Int32} {st : List Value} {m : Nat} {I : Nat → Int32} {A : Nat → Nat → Int32} {L : Nat → Nat → Int64} {rest : Nat → Option jv_C} {z : Nat × Nat} (hi : i < 17) (hv : narrow .boolean (.int v) = .int v) : jv_ev call 20 13 [l0, l1] (.int v :: .int (nI i) :: .ref (m + 22) :: st) (jm_H m I A L rest z) = jv_ev call 20 14 [l0, l1] st (jm_H m I (va_up A 26 (upd (A 26) i v)) L rest z) := je_bast D20_13 rfl (by rw [hv]; exact jm_s26 hi)
theorem D20_14 : decode (jt_code 20) 14 = .ok (.aload_n 0, 1) := by decide +kernel
theorem E20_14 {call : jv_F} {l1 : Option Value} {a : Nat} {st : List Value} {h : jv_H} : jv_ev call 20 14 [some (.ref a), l1] st h = jv_ev call 20 15 [some (.ref a), l1] (.ref a :: st) h := je_aload_n (r := some a) D20_14 rfl rfl
theorem D20_15 : decode (jt_code 20) 15 = .ok (.getfield 82, 3) := by decide +kernel
theorem E20_15 {call : jv_F} {l0 l1 : Option Value}  {st : List Value} {m : Nat} {I : Nat → Int32} {A : Nat → Nat → Int32} {L : Nat → Nat → Int64} {rest : Nat → Option jv_C} {z : Nat × Nat} : jv_ev call 20 15 [l0, l1] (.ref m :: st) (jm_H m I A L rest z) = jv_ev call 20 18 [l0, l1] (.ref (m + 23) :: st) (jm_H m I A L rest z) := je_get D20_15 rfl (by decide) jm_g27
theorem D20_18 : decode (jt_code 20) 18 = .ok (.iload_n 1, 1) := by decide +kernel
theorem E20_18 {call : jv_F} {l0 : Option Value} {x : Int32} {st : List Value} {h : jv_H} : jv_ev call 20 18 [l0, some (.int x)] st h = jv_ev call 20 19 [l0, some (.int x)] (.int x :: st) h := je_iload_n D20_18 rfl rfl
theorem D20_19 : decode (jt_code 20) 19 = .ok (.iconst 0, 1) := by decide +kernel
theorem E20_19 {call : jv_F} {l0 l1 : Option Value}  {st : List Value} {h : jv_H} : jv_ev call 20 19 [l0, l1] st h = jv_ev call 20 20 [l0, l1] (.int (nI 0) :: st) h := je_iconst D20_19 rfl (by decide)
theorem D20_20 : decode (jt_code 20) 20 = .ok (.bastore, 1) := by decide +kernel
theorem E20_20 {call : jv_F} {l0 l1 : Option Value} {i : Nat} {v : Int32} {st : List Value} {m : Nat} {I : Nat → Int32} {A : Nat → Nat → Int32} {L : Nat → Nat → Int64} {rest : Nat → Option jv_C} {z : Nat × Nat} (hi : i < 17) (hv : narrow .boolean (.int v) = .int v) : jv_ev call 20 20 [l0, l1] (.int v :: .int (nI i) :: .ref (m + 23) :: st) (jm_H m I A L rest z) = jv_ev call 20 21 [l0, l1] st (jm_H m I (va_up A 27 (upd (A 27) i v)) L rest z) := je_bast D20_20 rfl (by rw [hv]; exact jm_s27 hi)
theorem D20_21 : decode (jt_code 20) 21 = .ok (.aload_n 0, 1) := by decide +kernel
theorem E20_21 {call : jv_F} {l1 : Option Value} {a : Nat} {st : List Value} {h : jv_H} : jv_ev call 20 21 [some (.ref a), l1] st h = jv_ev call 20 22 [some (.ref a), l1] (.ref a :: st) h := je_aload_n (r := some a) D20_21 rfl rfl
theorem D20_22 : decode (jt_code 20) 22 = .ok (.getfield 73, 3) := by decide +kernel
theorem E20_22 {call : jv_F} {l0 l1 : Option Value}  {st : List Value} {m : Nat} {I : Nat → Int32} {A : Nat → Nat → Int32} {L : Nat → Nat → Int64} {rest : Nat → Option jv_C} {z : Nat × Nat} : jv_ev call 20 22 [l0, l1] (.ref m :: st) (jm_H m I A L rest z) = jv_ev call 20 25 [l0, l1] (.ref (m + 20) :: st) (jm_H m I A L rest z) := je_get D20_22 rfl (by decide) jm_g24
theorem D20_25 : decode (jt_code 20) 25 = .ok (.iload_n 1, 1) := by decide +kernel
theorem E20_25 {call : jv_F} {l0 : Option Value} {x : Int32} {st : List Value} {h : jv_H} : jv_ev call 20 25 [l0, some (.int x)] st h = jv_ev call 20 26 [l0, some (.int x)] (.int x :: st) h := je_iload_n D20_25 rfl rfl
theorem D20_26 : decode (jt_code 20) 26 = .ok (.iconst 0, 1) := by decide +kernel
theorem E20_26 {call : jv_F} {l0 l1 : Option Value}  {st : List Value} {h : jv_H} : jv_ev call 20 26 [l0, l1] st h = jv_ev call 20 27 [l0, l1] (.int (nI 0) :: st) h := je_iconst D20_26 rfl (by decide)
theorem D20_27 : decode (jt_code 20) 27 = .ok (.iastore, 1) := by decide +kernel
theorem E20_27 {call : jv_F} {l0 l1 : Option Value} {i : Nat} {v : Int32} {st : List Value} {m : Nat} {I : Nat → Int32} {A : Nat → Nat → Int32} {L : Nat → Nat → Int64} {rest : Nat → Option jv_C} {z : Nat × Nat} (hi : i < 17) : jv_ev call 20 27 [l0, l1] (.int v :: .int (nI i) :: .ref (m + 20) :: st) (jm_H m I A L rest z) = jv_ev call 20 28 [l0, l1] st (jm_H m I (va_up A 24 (upd (A 24) i v)) L rest z) := je_iast D20_27 rfl (jm_s24 hi)
theorem D20_28 : decode (jt_code 20) 28 = .ok (.aload_n 0, 1) := by decide +kernel
theorem E20_28 {call : jv_F} {l1 : Option Value} {a : Nat} {st : List Value} {h : jv_H} : jv_ev call 20 28 [some (.ref a), l1] st h = jv_ev call 20 29 [some (.ref a), l1] (.ref a :: st) h := je_aload_n (r := some a) D20_28 rfl rfl
theorem D20_29 : decode (jt_code 20) 29 = .ok (.getfield 76, 3) := by decide +kernel
theorem E20_29 {call : jv_F} {l0 l1 : Option Value}  {st : List Value} {m : Nat} {I : Nat → Int32} {A : Nat → Nat → Int32} {L : Nat → Nat → Int64} {rest : Nat → Option jv_C} {z : Nat × Nat} : jv_ev call 20 29 [l0, l1] (.ref m :: st) (jm_H m I A L rest z) = jv_ev call 20 32 [l0, l1] (.ref (m + 21) :: st) (jm_H m I A L rest z) := je_get D20_29 rfl (by decide) jm_g25
theorem D20_32 : decode (jt_code 20) 32 = .ok (.iload_n 1, 1) := by decide +kernel
theorem E20_32 {call : jv_F} {l0 : Option Value} {x : Int32} {st : List Value} {h : jv_H} : jv_ev call 20 32 [l0, some (.int x)] st h = jv_ev call 20 33 [l0, some (.int x)] (.int x :: st) h := je_iload_n D20_32 rfl rfl
theorem D20_33 : decode (jt_code 20) 33 = .ok (.iconst 0, 1) := by decide +kernel
theorem E20_33 {call : jv_F} {l0 l1 : Option Value}  {st : List Value} {h : jv_H} : jv_ev call 20 33 [l0, l1] st h = jv_ev call 20 34 [l0, l1] (.int (nI 0) :: st) h := je_iconst D20_33 rfl (by decide)
theorem D20_34 : decode (jt_code 20) 34 = .ok (.iastore, 1) := by decide +kernel
theorem E20_34 {call : jv_F} {l0 l1 : Option Value} {i : Nat} {v : Int32} {st : List Value} {m : Nat} {I : Nat → Int32} {A : Nat → Nat → Int32} {L : Nat → Nat → Int64} {rest : Nat → Option jv_C} {z : Nat × Nat} (hi : i < 17) : jv_ev call 20 34 [l0, l1] (.int v :: .int (nI i) :: .ref (m + 21) :: st) (jm_H m I A L rest z) = jv_ev call 20 35 [l0, l1] st (jm_H m I (va_up A 25 (upd (A 25) i v)) L rest z) := je_iast D20_34 rfl (jm_s25 hi)
theorem D20_35 : decode (jt_code 20) 35 = .ok (.return_, 1) := by decide +kernel
theorem E20_35 {call : jv_F} {l0 l1 : Option Value}  {h : jv_H} : jv_ev call 20 35 [l0, l1] [] h = some (none, h) := je_ret D20_35 rfl
/-! method 21: DrumMachineModel.finish -/
theorem N21 {d : Nat} {b : Nat} {h : jv_H} : jv_run (d + 1) 21 [.ref b] h = jv_ev (jv_run d) 21 0 [some (.ref b), none] [] h := jv_run_eq (Nat.le_of_ble_eq_true rfl) rfl
theorem D21_0 : decode (jt_code 21) 0 = .ok (.aload_n 0, 1) := by decide +kernel
theorem E21_0 {call : jv_F} {l1 : Option Value} {a : Nat} {st : List Value} {h : jv_H} : jv_ev call 21 0 [some (.ref a), l1] st h = jv_ev call 21 1 [some (.ref a), l1] (.ref a :: st) h := je_aload_n (r := some a) D21_0 rfl rfl
theorem D21_1 : decode (jt_code 21) 1 = .ok (.getfield 70, 3) := by decide +kernel
theorem E21_1 {call : jv_F} {l0 l1 : Option Value}  {st : List Value} {m : Nat} {I : Nat → Int32} {A : Nat → Nat → Int32} {L : Nat → Nat → Int64} {rest : Nat → Option jv_C} {z : Nat × Nat} : jv_ev call 21 1 [l0, l1] (.ref m :: st) (jm_H m I A L rest z) = jv_ev call 21 4 [l0, l1] (.ref (m + 19) :: st) (jm_H m I A L rest z) := je_get D21_1 rfl (by decide) jm_g23
theorem D21_4 : decode (jt_code 21) 4 = .ok (.aload_n 0, 1) := by decide +kernel
theorem E21_4 {call : jv_F} {l1 : Option Value} {a : Nat} {st : List Value} {h : jv_H} : jv_ev call 21 4 [some (.ref a), l1] st h = jv_ev call 21 5 [some (.ref a), l1] (.ref a :: st) h := je_aload_n (r := some a) D21_4 rfl rfl
theorem D21_5 : decode (jt_code 21) 5 = .ok (.getfield 176, 3) := by decide +kernel
theorem E21_5 {call : jv_F} {l0 l1 : Option Value}  {st : List Value} {m : Nat} {I : Nat → Int32} {A : Nat → Nat → Int32} {L : Nat → Nat → Int64} {rest : Nat → Option jv_C} {z : Nat × Nat} : jv_ev call 21 5 [l0, l1] (.ref m :: st) (jm_H m I A L rest z) = jv_ev call 21 8 [l0, l1] (.int (I 33) :: st) (jm_H m I A L rest z) := je_get D21_5 rfl (by decide) jm_g33
theorem D21_8 : decode (jt_code 21) 8 = .ok (.iaload, 1) := by decide +kernel
theorem E21_8 {call : jv_F} {l0 l1 : Option Value} {i : Nat} {st : List Value} {m : Nat} {I : Nat → Int32} {A : Nat → Nat → Int32} {L : Nat → Nat → Int64} {rest : Nat → Option jv_C} {z : Nat × Nat} (hi : i < 17) : jv_ev call 21 8 [l0, l1] (.int (nI i) :: .ref (m + 19) :: st) (jm_H m I A L rest z) = jv_ev call 21 9 [l0, l1] (.int (A 23 i) :: st) (jm_H m I A L rest z) := je_iald D21_8 rfl (jm_l23 hi)
theorem D21_9 : decode (jt_code 21) 9 = .ok (.istore_n 1, 1) := by decide +kernel
theorem E21_9 {call : jv_F} {l0 l1 : Option Value} {x : Int32} {st : List Value} {h : jv_H} (hk : ¬ jv_is2 (some l0) = true) : jv_ev call 21 9 [l0, l1] (.int x :: st) h = jv_ev call 21 10 [l0, some (.int x)] st h := je_istore_n D21_9 rfl (Nat.le_of_ble_eq_true rfl) (by show jv_st1 _ 1 _ = _; simp only [jv_st1, jv_kill, List.getElem?_cons_succ, List.getElem?_cons_zero, hk, if_false]; rfl)
theorem D21_10 : decode (jt_code 21) 10 = .ok (.aload_n 0, 1) := by decide +kernel
theorem E21_10 {call : jv_F} {l1 : Option Value} {a : Nat} {st : List Value} {h : jv_H} : jv_ev call 21 10 [some (.ref a), l1] st h = jv_ev call 21 11 [some (.ref a), l1] (.ref a :: st) h := je_aload_n (r := some a) D21_10 rfl rfl
theorem D21_11 : decode (jt_code 21) 11 = .ok (.getfield 142, 3) := by decide +kernel
theorem E21_11 {call : jv_F} {l0 l1 : Option Value}  {st : List Value} {m : Nat} {I : Nat → Int32} {A : Nat → Nat → Int32} {L : Nat → Nat → Int64} {rest : Nat → Option jv_C} {z : Nat × Nat} : jv_ev call 21 11 [l0, l1] (.ref m :: st) (jm_H m I A L rest z) = jv_ev call 21 14 [l0, l1] (.int (I 32) :: st) (jm_H m I A L rest z) := je_get D21_11 rfl (by decide) jm_g32
theorem D21_14 : decode (jt_code 21) 14 = .ok (.iconst 2, 1) := by decide +kernel
theorem E21_14 {call : jv_F} {l0 l1 : Option Value}  {st : List Value} {h : jv_H} : jv_ev call 21 14 [l0, l1] st h = jv_ev call 21 15 [l0, l1] (.int (nI 2) :: st) h := je_iconst D21_14 rfl (by decide)
theorem D21_15 : decode (jt_code 21) 15 = .ok (.if_icmp .ne 41, 3) := by decide +kernel
theorem E21_15 {call : jv_F} {l0 l1 : Option Value} {x y : Int32} {st : List Value} {h : jv_H} : jv_ev call 21 15 [l0, l1] (.int y :: .int x :: st) h = if ¬ x = y then jv_ev call 21 56 [l0, l1] st h else jv_ev call 21 18 [l0, l1] st h := je_icmp D21_15 (by decide) rfl rfl
theorem D21_18 : decode (jt_code 21) 18 = .ok (.aload_n 0, 1) := by decide +kernel
theorem E21_18 {call : jv_F} {l1 : Option Value} {a : Nat} {st : List Value} {h : jv_H} : jv_ev call 21 18 [some (.ref a), l1] st h = jv_ev call 21 19 [some (.ref a), l1] (.ref a :: st) h := je_aload_n (r := some a) D21_18 rfl rfl
theorem D21_19 : decode (jt_code 21) 19 = .ok (.aload_n 0, 1) := by decide +kernel
theorem E21_19 {call : jv_F} {l1 : Option Value} {a : Nat} {st : List Value} {h : jv_H} : jv_ev call 21 19 [some (.ref a), l1] st h = jv_ev call 21 20 [some (.ref a), l1] (.ref a :: st) h := je_aload_n (r := some a) D21_19 rfl rfl
theorem D21_20 : decode (jt_code 21) 20 = .ok (.getfield 176, 3) := by decide +kernel
theorem E21_20 {call : jv_F} {l0 l1 : Option Value}  {st : List Value} {m : Nat} {I : Nat → Int32} {A : Nat → Nat → Int32} {L : Nat → Nat → Int64} {rest : Nat → Option jv_C} {z : Nat × Nat} : jv_ev call 21 20 [l0, l1] (.ref m :: st) (jm_H m I A L rest z) = jv_ev call 21 23 [l0, l1] (.int (I 33) :: st) (jm_H m I A L rest z) := je_get D21_20 rfl (by decide) jm_g33
theorem D21_23 : decode (jt_code 21) 23 = .ok (.invokevirtual 179, 3) := by decide +kernel
theorem E21_23 {call : jv_F} {l0 l1 : Option Value} {v0 : Value}  {st : List Value} {m : Nat} {I : Nat → Int32} {A : Nat → Nat → Int32} {L : Nat → Nat → Int64} {rest : Nat → Option jv_C} {z : Nat × Nat} (hw : jv_wide st = true) (hc : (call 20 [.ref m, v0] (jm_H m I A L rest z)).isSome = true) : jv_ev call 21 23 [l0, l1] (v0 :: .ref m :: st) (jm_H m I A L rest z) = jv_ev call 21 26 [l0, l1] ((((call 20 [.ref m, v0] (jm_H m I A L rest z)).getD (none, (jm_H m I A L rest z))).1).toList ++ st) ((call 20 [.ref m, v0] (jm_H m I A L rest z)).getD (none, (jm_H m I A L rest z))).2 := by
  obtain ⟨⟨r, h'⟩, hv⟩ := Option.isSome_iff_exists.mp hc
  rw [hv]
  exact je_virt (y := 20) (as := [v0]) D21_23 rfl (by decide) (by decide) rfl jm_cl hw hv
theorem D21_26 : decode (jt_code 21) 26 = .ok (.aload_n 0, 1) := by decide +kernel
theorem E21_26 {call : jv_F} {l1 : Option Value} {a : Nat} {st : List Value} {h : jv_H} : jv_ev call 21 26 [some (.ref a), l1] st h = jv_ev call 21 27 [some (.ref a), l1] (.ref a :: st) h := je_aload_n (r := some a) D21_26 rfl rfl
theorem D21_27 : decode (jt_code 21) 27 = .ok (.getfield 27, 3) := by decide +kernel
theorem E21_27 {call : jv_F} {l0 l1 : Option Value}  {st : List Value} {m : Nat} {I : Nat → Int32} {A : Nat → Nat → Int32} {L : Nat → Nat → Int64} {rest : Nat → Option jv_C} {z : Nat × Nat} : jv_ev call 21 27 [l0, l1] (.ref m :: st) (jm_H m I A L rest z) = jv_ev call 21 30 [l0, l1] (.ref (m + 5) :: st) (jm_H m I A L rest z) := je_get D21_27 rfl (by decide) jm_g8
theorem D21_30 : decode (jt_code 21) 30 = .ok (.iload_n 1, 1) := by decide +kernel
theorem E21_30 {call : jv_F} {l0 : Option Value} {x : Int32} {st : List Value} {h : jv_H} : jv_ev call 21 30 [l0, some (.int x)] st h = jv_ev call 21 31 [l0, some (.int x)] (.int x :: st) h := je_iload_n D21_30 rfl rfl
theorem D21_31 : decode (jt_code 21) 31 = .ok (.bipush 64, 2) := by decide +kernel
theorem E21_31 {call : jv_F} {l0 l1 : Option Value}  {st : List Value} {h : jv_H} : jv_ev call 21 31 [l0, l1] st h = jv_ev call 21 33 [l0, l1] (.int (nI 64) :: st) h := je_bipush D21_31 rfl (by decide)
theorem D21_33 : decode (jt_code 21) 33 = .ok (.idiv, 1) := by decide +kernel
theorem E21_33 {call : jv_F} {l0 l1 : Option Value} {x y : Int32} {st : List Value} {h : jv_H} (hy : ¬ y = 0) : jv_ev call 21 33 [l0, l1] (.int y :: .int x :: st) h = jv_ev call 21 34 [l0, l1] (.int (x / y) :: st) h := je_idiv D21_33 rfl hy
theorem D21_34 : decode (jt_code 21) 34 = .ok (.iaload, 1) := by decide +kernel
theorem E21_34 {call : jv_F} {l0 l1 : Option Value} {i : Nat} {st : List Value} {m : Nat} {I : Nat → Int32} {A : Nat → Nat → Int32} {L : Nat → Nat → Int64} {rest : Nat → Option jv_C} {z : Nat × Nat} (hi : i < 12) : jv_ev call 21 34 [l0, l1] (.int (nI i) :: .ref (m + 5) :: st) (jm_H m I A L rest z) = jv_ev call 21 35 [l0, l1] (.int (A 8 i) :: st) (jm_H m I A L rest z) := je_iald D21_34 rfl (jm_l8 hi)
theorem D21_35 : decode (jt_code 21) 35 = .ok (.ifCond .eq 84, 3) := by decide +kernel
theorem E21_35 {call : jv_F} {l0 l1 : Option Value} {x : Int32} {st : List Value} {h : jv_H} : jv_ev call 21 35 [l0, l1] (.int x :: st) h = if x = 0 then jv_ev call 21 119 [l0, l1] st h else jv_ev call 21 38 [l0, l1] st h := je_ifc D21_35 (by decide) rfl rfl
theorem D21_38 : decode (jt_code 21) 38 = .ok (.aload_n 0, 1) := by decide +kernel
theorem E21_38 {call : jv_F} {l1 : Option Value} {a : Nat} {st : List Value} {h : jv_H} : jv_ev call 21 38 [some (.ref a), l1] st h = jv_ev call 21 39 [some (.ref a), l1] (.ref a :: st) h := je_aload_n (r := some a) D21_38 rfl rfl
theorem D21_39 : decode (jt_code 21) 39 = .ok (.getfield 85, 3) := by decide +kernel
theorem E21_39 {call : jv_F} {l0 l1 : Option Value}  {st : List Value} {m : Nat} {I : Nat → Int32} {A : Nat → Nat → Int32} {L : Nat → Nat → Int64} {rest : Nat → Option jv_C} {z : Nat × Nat} : jv_ev call 21 39 [l0, l1] (.ref m :: st) (jm_H m I A L rest z) = jv_ev call 21 42 [l0, l1] (.ref (m + 24) :: st) (jm_H m I A L rest z) := je_get D21_39 rfl (by decide) jm_g28
theorem D21_42 : decode (jt_code 21) 42 = .ok (.aload_n 0, 1) := by decide +kernel
theorem E21_42 {call : jv_F} {l1 : Option Value} {a : Nat} {st : List Value} {h : jv_H} : jv_ev call 21 42 [some (.ref a), l1] st h = jv_ev call 21 43 [some (.ref a), l1] (.ref a :: st) h := je_aload_n (r := some a) D21_42 rfl rfl
theorem D21_43 : decode (jt_code 21) 43 = .ok (.getfield 182, 3) := by decide +kernel
theorem E21_43 {call : jv_F} {l0 l1 : Option Value}  {st : List Value} {m : Nat} {I : Nat → Int32} {A : Nat → Nat → Int32} {L : Nat → Nat → Int64} {rest : Nat → Option jv_C} {z : Nat × Nat} : jv_ev call 21 43 [l0, l1] (.ref m :: st) (jm_H m I A L rest z) = jv_ev call 21 46 [l0, l1] (.int (I 34) :: st) (jm_H m I A L rest z) := je_get D21_43 rfl (by decide) jm_g34
theorem D21_46 : decode (jt_code 21) 46 = .ok (.iconst (-1), 1) := by decide +kernel
theorem E21_46 {call : jv_F} {l0 l1 : Option Value}  {st : List Value} {h : jv_H} : jv_ev call 21 46 [l0, l1] st h = jv_ev call 21 47 [l0, l1] (.int (-1) :: st) h := je_iconst D21_46 rfl (by decide)
theorem D21_47 : decode (jt_code 21) 47 = .ok (.iastore, 1) := by decide +kernel
theorem E21_47 {call : jv_F} {l0 l1 : Option Value} {i : Nat} {v : Int32} {st : List Value} {m : Nat} {I : Nat → Int32} {A : Nat → Nat → Int32} {L : Nat → Nat → Int64} {rest : Nat → Option jv_C} {z : Nat × Nat} (hi : i < 64) : jv_ev call 21 47 [l0, l1] (.int v :: .int (nI i) :: .ref (m + 24) :: st) (jm_H m I A L rest z) = jv_ev call 21 48 [l0, l1] st (jm_H m I (va_up A 28 (upd (A 28) i v)) L rest z) := je_iast D21_47 rfl (jm_s28 hi)
theorem D21_48 : decode (jt_code 21) 48 = .ok (.aload_n 0, 1) := by decide +kernel
theorem E21_48 {call : jv_F} {l1 : Option Value} {a : Nat} {st : List Value} {h : jv_H} : jv_ev call 21 48 [some (.ref a), l1] st h = jv_ev call 21 49 [some (.ref a), l1] (.ref a :: st) h := je_aload_n (r := some a) D21_48 rfl rfl
theorem D21_49 : decode (jt_code 21) 49 = .ok (.iload_n 1, 1) := by decide +kernel
theorem E21_49 {call : jv_F} {l0 : Option Value} {x : Int32} {st : List Value} {h : jv_H} : jv_ev call 21 49 [l0, some (.int x)] st h = jv_ev call 21 50 [l0, some (.int x)] (.int x :: st) h := je_iload_n D21_49 rfl rfl
theorem D21_50 : decode (jt_code 21) 50 = .ok (.invokevirtual 185, 3) := by decide +kernel
theorem E21_50 {call : jv_F} {l0 l1 : Option Value} {v0 : Value}  {st : List Value} {m : Nat} {I : Nat → Int32} {A : Nat → Nat → Int32} {L : Nat → Nat → Int64} {rest : Nat → Option jv_C} {z : Nat × Nat} (hw : jv_wide st = true) (hc : (call 22 [.ref m, v0] (jm_H m I A L rest z)).isSome = true) : jv_ev call 21 50 [l0, l1] (v0 :: .ref m :: st) (jm_H m I A L rest z) = jv_ev call 21 53 [l0, l1] ((((call 22 [.ref m, v0] (jm_H m I A L rest z)).getD (none, (jm_H m I A L rest z))).1).toList ++ st) ((call 22 [.ref m, v0] (jm_H m I A L rest z)).getD (none, (jm_H m I A L rest z))).2 := by
  obtain ⟨⟨r, h'⟩, hv⟩ := Option.isSome_iff_exists.mp hc
  rw [hv]
  exact je_virt (y := 22) (as := [v0]) D21_50 rfl (by decide) (by decide) rfl jm_cl hw hv
theorem D21_53 : decode (jt_code 21) 53 = .ok (.goto 66, 3) := by decide +kernel
theorem E21_53 {call : jv_F} {l0 l1 : Option Value}  {st : List Value} {h : jv_H} : jv_ev call 21 53 [l0, l1] st h = jv_ev call 21 119 [l0, l1] st h := je_goto D21_53 (by decide)
theorem D21_56 : decode (jt_code 21) 56 = .ok (.aload_n 0, 1) := by decide +kernel
theorem E21_56 {call : jv_F} {l1 : Option Value} {a : Nat} {st : List Value} {h : jv_H} : jv_ev call 21 56 [some (.ref a), l1] st h = jv_ev call 21 57 [some (.ref a), l1] (.ref a :: st) h := je_aload_n (r := some a) D21_56 rfl rfl
theorem D21_57 : decode (jt_code 21) 57 = .ok (.getfield 79, 3) := by decide +kernel
theorem E21_57 {call : jv_F} {l0 l1 : Option Value}  {st : List Value} {m : Nat} {I : Nat → Int32} {A : Nat → Nat → Int32} {L : Nat → Nat → Int64} {rest : Nat → Option jv_C} {z : Nat × Nat} : jv_ev call 21 57 [l0, l1] (.ref m :: st) (jm_H m I A L rest z) = jv_ev call 21 60 [l0, l1] (.ref (m + 22) :: st) (jm_H m I A L rest z) := je_get D21_57 rfl (by decide) jm_g26
theorem D21_60 : decode (jt_code 21) 60 = .ok (.aload_n 0, 1) := by decide +kernel
theorem E21_60 {call : jv_F} {l1 : Option Value} {a : Nat} {st : List Value} {h : jv_H} : jv_ev call 21 60 [some (.ref a), l1] st h = jv_ev call 21 61 [some (.ref a), l1] (.ref a :: st) h := je_aload_n (r := some a) D21_60 rfl rfl
theorem D21_61 : decode (jt_code 21) 61 = .ok (.getfield 176, 3) := by decide +kernel
theorem E21_61 {call : jv_F} {l0 l1 : Option Value}  {st : List Value} {m : Nat} {I : Nat → Int32} {A : Nat → Nat → Int32} {L : Nat → Nat → Int64} {rest : Nat → Option jv_C} {z : Nat × Nat} : jv_ev call 21 61 [l0, l1] (.ref m :: st) (jm_H m I A L rest z) = jv_ev call 21 64 [l0, l1] (.int (I 33) :: st) (jm_H m I A L rest z) := je_get D21_61 rfl (by decide) jm_g33
theorem D21_64 : decode (jt_code 21) 64 = .ok (.iconst 0, 1) := by decide +kernel
theorem E21_64 {call : jv_F} {l0 l1 : Option Value}  {st : List Value} {h : jv_H} : jv_ev call 21 64 [l0, l1] st h = jv_ev call 21 65 [l0, l1] (.int (nI 0) :: st) h := je_iconst D21_64 rfl (by decide)
theorem D21_65 : decode (jt_code 21) 65 = .ok (.bastore, 1) := by decide +kernel
theorem E21_65 {call : jv_F} {l0 l1 : Option Value} {i : Nat} {v : Int32} {st : List Value} {m : Nat} {I : Nat → Int32} {A : Nat → Nat → Int32} {L : Nat → Nat → Int64} {rest : Nat → Option jv_C} {z : Nat × Nat} (hi : i < 17) (hv : narrow .boolean (.int v) = .int v) : jv_ev call 21 65 [l0, l1] (.int v :: .int (nI i) :: .ref (m + 22) :: st) (jm_H m I A L rest z) = jv_ev call 21 66 [l0, l1] st (jm_H m I (va_up A 26 (upd (A 26) i v)) L rest z) := je_bast D21_65 rfl (by rw [hv]; exact jm_s26 hi)
theorem D21_66 : decode (jt_code 21) 66 = .ok (.aload_n 0, 1) := by decide +kernel
theorem E21_66 {call : jv_F} {l1 : Option Value} {a : Nat} {st : List Value} {h : jv_H} : jv_ev call 21 66 [some (.ref a), l1] st h = jv_ev call 21 67 [some (.ref a), l1] (.ref a :: st) h := je_aload_n (r := some a) D21_66 rfl rfl
theorem D21_67 : decode (jt_code 21) 67 = .ok (.getfield 82, 3) := by decide +kernel
theorem E21_67 {call : jv_F} {l0 l1 : Option Value}  {st : List Value} {m : Nat} {I : Nat → Int32} {A : Nat → Nat → Int32} {L : Nat → Nat → Int64} {rest : Nat → Option jv_C} {z : Nat × Nat} : jv_ev call 21 67 [l0, l1] (.ref m :: st) (jm_H m I A L rest z) = jv_ev call 21 70 [l0, l1] (.ref (m + 23) :: st) (jm_H m I A L rest z) := je_get D21_67 rfl (by decide) jm_g27
theorem D21_70 : decode (jt_code 21) 70 = .ok (.aload_n 0, 1) := by decide +kernel
theorem E21_70 {call : jv_F} {l1 : Option Value} {a : Nat} {st : List Value} {h : jv_H} : jv_ev call 21 70 [some (.ref a), l1] st h = jv_ev call 21 71 [some (.ref a), l1] (.ref a :: st) h := je_aload_n (r := some a) D21_70 rfl rfl
theorem D21_71 : decode (jt_code 21) 71 = .ok (.getfield 176, 3) := by decide +kernel
theorem E21_71 {call : jv_F} {l0 l1 : Option Value}  {st : List Value} {m : Nat} {I : Nat → Int32} {A : Nat → Nat → Int32} {L : Nat → Nat → Int64} {rest : Nat → Option jv_C} {z : Nat × Nat} : jv_ev call 21 71 [l0, l1] (.ref m :: st) (jm_H m I A L rest z) = jv_ev call 21 74 [l0, l1] (.int (I 33) :: st) (jm_H m I A L rest z) := je_get D21_71 rfl (by decide) jm_g33
theorem D21_74 : decode (jt_code 21) 74 = .ok (.iconst 0, 1) := by decide +kernel
theorem E21_74 {call : jv_F} {l0 l1 : Option Value}  {st : List Value} {h : jv_H} : jv_ev call 21 74 [l0, l1] st h = jv_ev call 21 75 [l0, l1] (.int (nI 0) :: st) h := je_iconst D21_74 rfl (by decide)
theorem D21_75 : decode (jt_code 21) 75 = .ok (.bastore, 1) := by decide +kernel
theorem E21_75 {call : jv_F} {l0 l1 : Option Value} {i : Nat} {v : Int32} {st : List Value} {m : Nat} {I : Nat → Int32} {A : Nat → Nat → Int32} {L : Nat → Nat → Int64} {rest : Nat → Option jv_C} {z : Nat × Nat} (hi : i < 17) (hv : narrow .boolean (.int v) = .int v) : jv_ev call 21 75 [l0, l1] (.int v :: .int (nI i) :: .ref (m + 23) :: st) (jm_H m I A L rest z) = jv_ev call 21 76 [l0, l1] st (jm_H m I (va_up A 27 (upd (A 27) i v)) L rest z) := je_bast D21_75 rfl (by rw [hv]; exact jm_s27 hi)
theorem D21_76 : decode (jt_code 21) 76 = .ok (.aload_n 0, 1) := by decide +kernel
theorem E21_76 {call : jv_F} {l1 : Option Value} {a : Nat} {st : List Value} {h : jv_H} : jv_ev call 21 76 [some (.ref a), l1] st h = jv_ev call 21 77 [some (.ref a), l1] (.ref a :: st) h := je_aload_n (r := some a) D21_76 rfl rfl
theorem D21_77 : decode (jt_code 21) 77 = .ok (.getfield 73, 3) := by decide +kernel
theorem E21_77 {call : jv_F} {l0 l1 : Option Value}  {st : List Value} {m : Nat} {I : Nat → Int32} {A : Nat → Nat → Int32} {L : Nat → Nat → Int64} {rest : Nat → Option jv_C} {z : Nat × Nat} : jv_ev call 21 77 [l0, l1] (.ref m :: st) (jm_H m I A L rest z) = jv_ev call 21 80 [l0, l1] (.ref (m + 20) :: st) (jm_H m I A L rest z) := je_get D21_77 rfl (by decide) jm_g24
theorem D21_80 : decode (jt_code 21) 80 = .ok (.aload_n 0, 1) := by decide +kernel
theorem E21_80 {call : jv_F} {l1 : Option Value} {a : Nat} {st : List Value} {h : jv_H} : jv_ev call 21 80 [some (.ref a), l1] st h = jv_ev call 21 81 [some (.ref a), l1] (.ref a :: st) h := je_aload_n (r := some a) D21_80 rfl rfl
theorem D21_81 : decode (jt_code 21) 81 = .ok (.getfield 176, 3) := by decide +kernel
theorem E21_81 {call : jv_F} {l0 l1 : Option Value}  {st : List Value} {m : Nat} {I : Nat → Int32} {A : Nat → Nat → Int32} {L : Nat → Nat → Int64} {rest : Nat → Option jv_C} {z : Nat × Nat} : jv_ev call 21 81 [l0, l1] (.ref m :: st) (jm_H m I A L rest z) = jv_ev call 21 84 [l0, l1] (.int (I 33) :: st) (jm_H m I A L rest z) := je_get D21_81 rfl (by decide) jm_g33
theorem D21_84 : decode (jt_code 21) 84 = .ok (.iconst 0, 1) := by decide +kernel
theorem E21_84 {call : jv_F} {l0 l1 : Option Value}  {st : List Value} {h : jv_H} : jv_ev call 21 84 [l0, l1] st h = jv_ev call 21 85 [l0, l1] (.int (nI 0) :: st) h := je_iconst D21_84 rfl (by decide)
theorem D21_85 : decode (jt_code 21) 85 = .ok (.iastore, 1) := by decide +kernel
theorem E21_85 {call : jv_F} {l0 l1 : Option Value} {i : Nat} {v : Int32} {st : List Value} {m : Nat} {I : Nat → Int32} {A : Nat → Nat → Int32} {L : Nat → Nat → Int64} {rest : Nat → Option jv_C} {z : Nat × Nat} (hi : i < 17) : jv_ev call 21 85 [l0, l1] (.int v :: .int (nI i) :: .ref (m + 20) :: st) (jm_H m I A L rest z) = jv_ev call 21 86 [l0, l1] st (jm_H m I (va_up A 24 (upd (A 24) i v)) L rest z) := je_iast D21_85 rfl (jm_s24 hi)
theorem D21_86 : decode (jt_code 21) 86 = .ok (.aload_n 0, 1) := by decide +kernel
theorem E21_86 {call : jv_F} {l1 : Option Value} {a : Nat} {st : List Value} {h : jv_H} : jv_ev call 21 86 [some (.ref a), l1] st h = jv_ev call 21 87 [some (.ref a), l1] (.ref a :: st) h := je_aload_n (r := some a) D21_86 rfl rfl
theorem D21_87 : decode (jt_code 21) 87 = .ok (.getfield 76, 3) := by decide +kernel
theorem E21_87 {call : jv_F} {l0 l1 : Option Value}  {st : List Value} {m : Nat} {I : Nat → Int32} {A : Nat → Nat → Int32} {L : Nat → Nat → Int64} {rest : Nat → Option jv_C} {z : Nat × Nat} : jv_ev call 21 87 [l0, l1] (.ref m :: st) (jm_H m I A L rest z) = jv_ev call 21 90 [l0, l1] (.ref (m + 21) :: st) (jm_H m I A L rest z) := je_get D21_87 rfl (by decide) jm_g25
theorem D21_90 : decode (jt_code 21) 90 = .ok (.aload_n 0, 1) := by decide +kernel
theorem E21_90 {call : jv_F} {l1 : Option Value} {a : Nat} {st : List Value} {h : jv_H} : jv_ev call 21 90 [some (.ref a), l1] st h = jv_ev call 21 91 [some (.ref a), l1] (.ref a :: st) h := je_aload_n (r := some a) D21_90 rfl rfl
theorem D21_91 : decode (jt_code 21) 91 = .ok (.getfield 176, 3) := by decide +kernel
theorem E21_91 {call : jv_F} {l0 l1 : Option Value}  {st : List Value} {m : Nat} {I : Nat → Int32} {A : Nat → Nat → Int32} {L : Nat → Nat → Int64} {rest : Nat → Option jv_C} {z : Nat × Nat} : jv_ev call 21 91 [l0, l1] (.ref m :: st) (jm_H m I A L rest z) = jv_ev call 21 94 [l0, l1] (.int (I 33) :: st) (jm_H m I A L rest z) := je_get D21_91 rfl (by decide) jm_g33
theorem D21_94 : decode (jt_code 21) 94 = .ok (.aload_n 0, 1) := by decide +kernel
theorem E21_94 {call : jv_F} {l1 : Option Value} {a : Nat} {st : List Value} {h : jv_H} : jv_ev call 21 94 [some (.ref a), l1] st h = jv_ev call 21 95 [some (.ref a), l1] (.ref a :: st) h := je_aload_n (r := some a) D21_94 rfl rfl
theorem D21_95 : decode (jt_code 21) 95 = .ok (.getfield 67, 3) := by decide +kernel
theorem E21_95 {call : jv_F} {l0 l1 : Option Value}  {st : List Value} {m : Nat} {I : Nat → Int32} {A : Nat → Nat → Int32} {L : Nat → Nat → Int64} {rest : Nat → Option jv_C} {z : Nat × Nat} : jv_ev call 21 95 [l0, l1] (.ref m :: st) (jm_H m I A L rest z) = jv_ev call 21 98 [l0, l1] (.ref (m + 18) :: st) (jm_H m I A L rest z) := je_get D21_95 rfl (by decide) jm_g21
theorem D21_98 : decode (jt_code 21) 98 = .ok (.iload_n 1, 1) := by decide +kernel
theorem E21_98 {call : jv_F} {l0 : Option Value} {x : Int32} {st : List Value} {h : jv_H} : jv_ev call 21 98 [l0, some (.int x)] st h = jv_ev call 21 99 [l0, some (.int x)] (.int x :: st) h := je_iload_n D21_98 rfl rfl
theorem D21_99 : decode (jt_code 21) 99 = .ok (.iaload, 1) := by decide +kernel
theorem E21_99 {call : jv_F} {l0 l1 : Option Value} {i : Nat} {st : List Value} {m : Nat} {I : Nat → Int32} {A : Nat → Nat → Int32} {L : Nat → Nat → Int64} {rest : Nat → Option jv_C} {z : Nat × Nat} (hi : i < 768) : jv_ev call 21 99 [l0, l1] (.int (nI i) :: .ref (m + 18) :: st) (jm_H m I A L rest z) = jv_ev call 21 100 [l0, l1] (.int (A 21 i) :: st) (jm_H m I A L rest z) := je_iald D21_99 rfl (jm_l21 hi)
theorem D21_100 : decode (jt_code 21) 100 = .ok (.ifCond .ge 7, 3) := by decide +kernel
theorem E21_100 {call : jv_F} {l0 l1 : Option Value} {x : Int32} {st : List Value} {h : jv_H} : jv_ev call 21 100 [l0, l1] (.int x :: st) h = if 0 ≤ x then jv_ev call 21 107 [l0, l1] st h else jv_ev call 21 103 [l0, l1] st h := je_ifc D21_100 (by decide) rfl rfl
theorem D21_103 : decode (jt_code 21) 103 = .ok (.iconst 0, 1) := by decide +kernel
theorem E21_103 {call : jv_F} {l0 l1 : Option Value}  {st : List Value} {h : jv_H} : jv_ev call 21 103 [l0, l1] st h = jv_ev call 21 104 [l0, l1] (.int (nI 0) :: st) h := je_iconst D21_103 rfl (by decide)
theorem D21_104 : decode (jt_code 21) 104 = .ok (.goto 14, 3) := by decide +kernel
theorem E21_104 {call : jv_F} {l0 l1 : Option Value}  {st : List Value} {h : jv_H} : jv_ev call 21 104 [l0, l1] st h = jv_ev call 21 118 [l0, l1] st h := je_goto D21_104 (by decide)
theorem D21_107 : decode (jt_code 21) 107 = .ok (.aload_n 0, 1) := by decide +kernel
theorem E21_107 {call : jv_F} {l1 : Option Value} {a : Nat} {st : List Value} {h : jv_H} : jv_ev call 21 107 [some (.ref a), l1] st h = jv_ev call 21 108 [some (.ref a), l1] (.ref a :: st) h := je_aload_n (r := some a) D21_107 rfl rfl
theorem D21_108 : decode (jt_code 21) 108 = .ok (.getfield 188, 3) := by decide +kernel
theorem E21_108 {call : jv_F} {l0 l1 : Option Value}  {st : List Value} {m : Nat} {I : Nat → Int32} {A : Nat → Nat → Int32} {L : Nat → Nat → Int64} {rest : Nat → Option jv_C} {z : Nat × Nat} : jv_ev call 21 108 [l0, l1] (.ref m :: st) (jm_H m I A L rest z) = jv_ev call 21 111 [l0, l1] (.int (I 42) :: st) (jm_H m I A L rest z) := je_get D21_108 rfl (by decide) jm_g42
theorem D21_111 : decode (jt_code 21) 111 = .ok (.aload_n 0, 1) := by decide +kernel
theorem E21_111 {call : jv_F} {l1 : Option Value} {a : Nat} {st : List Value} {h : jv_H} : jv_ev call 21 111 [some (.ref a), l1] st h = jv_ev call 21 112 [some (.ref a), l1] (.ref a :: st) h := je_aload_n (r := some a) D21_111 rfl rfl
theorem D21_112 : decode (jt_code 21) 112 = .ok (.getfield 67, 3) := by decide +kernel
theorem E21_112 {call : jv_F} {l0 l1 : Option Value}  {st : List Value} {m : Nat} {I : Nat → Int32} {A : Nat → Nat → Int32} {L : Nat → Nat → Int64} {rest : Nat → Option jv_C} {z : Nat × Nat} : jv_ev call 21 112 [l0, l1] (.ref m :: st) (jm_H m I A L rest z) = jv_ev call 21 115 [l0, l1] (.ref (m + 18) :: st) (jm_H m I A L rest z) := je_get D21_112 rfl (by decide) jm_g21
theorem D21_115 : decode (jt_code 21) 115 = .ok (.iload_n 1, 1) := by decide +kernel
theorem E21_115 {call : jv_F} {l0 : Option Value} {x : Int32} {st : List Value} {h : jv_H} : jv_ev call 21 115 [l0, some (.int x)] st h = jv_ev call 21 116 [l0, some (.int x)] (.int x :: st) h := je_iload_n D21_115 rfl rfl
theorem D21_116 : decode (jt_code 21) 116 = .ok (.iaload, 1) := by decide +kernel
theorem E21_116 {call : jv_F} {l0 l1 : Option Value} {i : Nat} {st : List Value} {m : Nat} {I : Nat → Int32} {A : Nat → Nat → Int32} {L : Nat → Nat → Int64} {rest : Nat → Option jv_C} {z : Nat × Nat} (hi : i < 768) : jv_ev call 21 116 [l0, l1] (.int (nI i) :: .ref (m + 18) :: st) (jm_H m I A L rest z) = jv_ev call 21 117 [l0, l1] (.int (A 21 i) :: st) (jm_H m I A L rest z) := je_iald D21_116 rfl (jm_l21 hi)
theorem D21_117 : decode (jt_code 21) 117 = .ok (.isub, 1) := by decide +kernel
theorem E21_117 {call : jv_F} {l0 l1 : Option Value} {x y : Int32} {st : List Value} {h : jv_H} : jv_ev call 21 117 [l0, l1] (.int y :: .int x :: st) h = jv_ev call 21 118 [l0, l1] (.int (x - y) :: st) h := je_b2 (f := fun x y => x - y) D21_117 rfl (fun _ => rfl)
theorem D21_118 : decode (jt_code 21) 118 = .ok (.iastore, 1) := by decide +kernel
theorem E21_118 {call : jv_F} {l0 l1 : Option Value} {i : Nat} {v : Int32} {st : List Value} {m : Nat} {I : Nat → Int32} {A : Nat → Nat → Int32} {L : Nat → Nat → Int64} {rest : Nat → Option jv_C} {z : Nat × Nat} (hi : i < 17) : jv_ev call 21 118 [l0, l1] (.int v :: .int (nI i) :: .ref (m + 21) :: st) (jm_H m I A L rest z) = jv_ev call 21 119 [l0, l1] st (jm_H m I (va_up A 25 (upd (A 25) i v)) L rest z) := je_iast D21_118 rfl (jm_s25 hi)
theorem D21_119 : decode (jt_code 21) 119 = .ok (.aload_n 0, 1) := by decide +kernel
theorem E21_119 {call : jv_F} {l1 : Option Value} {a : Nat} {st : List Value} {h : jv_H} : jv_ev call 21 119 [some (.ref a), l1] st h = jv_ev call 21 120 [some (.ref a), l1] (.ref a :: st) h := je_aload_n (r := some a) D21_119 rfl rfl
theorem D21_120 : decode (jt_code 21) 120 = .ok (.iconst 0, 1) := by decide +kernel
theorem E21_120 {call : jv_F} {l0 l1 : Option Value}  {st : List Value} {h : jv_H} : jv_ev call 21 120 [l0, l1] st h = jv_ev call 21 121 [l0, l1] (.int (nI 0) :: st) h := je_iconst D21_120 rfl (by decide)
theorem D21_121 : decode (jt_code 21) 121 = .ok (.putfield 142, 3) := by decide +kernel
theorem E21_121 {call : jv_F} {l0 l1 : Option Value} {v : Int32} {st : List Value} {m : Nat} {I : Nat → Int32} {A : Nat → Nat → Int32} {L : Nat → Nat → Int64} {rest : Nat → Option jv_C} {z : Nat × Nat} : jv_ev call 21 121 [l0, l1] (.int v :: .ref m :: st) (jm_H m I A L rest z) = jv_ev call 21 124 [l0, l1] st (jm_H m (upd I 32 v) A L rest z) := je_put D21_121 rfl (by decide) (by decide) jm_p32
theorem D21_124 : decode (jt_code 21) 124 = .ok (.return_, 1) := by decide +kernel
theorem E21_124 {call : jv_F} {l0 l1 : Option Value}  {h : jv_H} : jv_ev call 21 124 [l0, l1] [] h = some (none, h) := je_ret D21_124 rfl
/-! method 22: DrumMachineModel.vanish -/
theorem N22 {d : Nat} {b : Nat} {a0 : Int32} {h : jv_H} : jv_run (d + 1) 22 [.ref b, .int a0] h = jv_ev (jv_run d) 22 0 [some (.ref b), some (.int a0)] [] h := jv_run_eq (Nat.le_of_ble_eq_true rfl) rfl
theorem D22_0 : decode (jt_code 22) 0 = .ok (.aload_n 0, 1) := by decide +kernel
theorem E22_0 {call : jv_F} {l1 : Option Value} {a : Nat} {st : List Value} {h : jv_H} : jv_ev call 22 0 [some (.ref a), l1] st h = jv_ev call 22 1 [some (.ref a), l1] (.ref a :: st) h := je_aload_n (r := some a) D22_0 rfl rfl
theorem D22_1 : decode (jt_code 22) 1 = .ok (.getfield 63, 3) := by decide +kernel
theorem E22_1 {call : jv_F} {l0 l1 : Option Value}  {st : List Value} {m : Nat} {I : Nat → Int32} {A : Nat → Nat → Int32} {L : Nat → Nat → Int64} {rest : Nat → Option jv_C} {z : Nat × Nat} : jv_ev call 22 1 [l0, l1] (.ref m :: st) (jm_H m I A L rest z) = jv_ev call 22 4 [l0, l1] (.ref (m + 17) :: st) (jm_H m I A L rest z) := je_get D22_1 rfl (by decide) jm_g20
theorem D22_4 : decode (jt_code 22) 4 = .ok (.iload_n 1, 1) := by decide +kernel
theorem E22_4 {call : jv_F} {l0 : Option Value} {x : Int32} {st : List Value} {h : jv_H} : jv_ev call 22 4 [l0, some (.int x)] st h = jv_ev call 22 5 [l0, some (.int x)] (.int x :: st) h := je_iload_n D22_4 rfl rfl
theorem D22_5 : decode (jt_code 22) 5 = .ok (.iconst 0, 1) := by decide +kernel
theorem E22_5 {call : jv_F} {l0 l1 : Option Value}  {st : List Value} {h : jv_H} : jv_ev call 22 5 [l0, l1] st h = jv_ev call 22 6 [l0, l1] (.int (nI 0) :: st) h := je_iconst D22_5 rfl (by decide)
theorem D22_6 : decode (jt_code 22) 6 = .ok (.bastore, 1) := by decide +kernel
theorem E22_6 {call : jv_F} {l0 l1 : Option Value} {i : Nat} {v : Int32} {st : List Value} {m : Nat} {I : Nat → Int32} {A : Nat → Nat → Int32} {L : Nat → Nat → Int64} {rest : Nat → Option jv_C} {z : Nat × Nat} (hi : i < 768) (hv : narrow .boolean (.int v) = .int v) : jv_ev call 22 6 [l0, l1] (.int v :: .int (nI i) :: .ref (m + 17) :: st) (jm_H m I A L rest z) = jv_ev call 22 7 [l0, l1] st (jm_H m I (va_up A 20 (upd (A 20) i v)) L rest z) := je_bast D22_6 rfl (by rw [hv]; exact jm_s20 hi)
theorem D22_7 : decode (jt_code 22) 7 = .ok (.aload_n 0, 1) := by decide +kernel
theorem E22_7 {call : jv_F} {l1 : Option Value} {a : Nat} {st : List Value} {h : jv_H} : jv_ev call 22 7 [some (.ref a), l1] st h = jv_ev call 22 8 [some (.ref a), l1] (.ref a :: st) h := je_aload_n (r := some a) D22_7 rfl rfl
theorem D22_8 : decode (jt_code 22) 8 = .ok (.dup, 1) := by decide +kernel
theorem E22_8 {call : jv_F} {l0 l1 : Option Value} {a : Nat} {st : List Value} {h : jv_H} : jv_ev call 22 8 [l0, l1] (.ref a :: st) h = jv_ev call 22 9 [l0, l1] (.ref a :: .ref a :: st) h := je_dup D22_8 rfl rfl
theorem E22_8i {call : jv_F} {l0 l1 : Option Value} {x : Int32} {st : List Value} {h : jv_H} : jv_ev call 22 8 [l0, l1] (.int x :: st) h = jv_ev call 22 9 [l0, l1] (.int x :: .int x :: st) h := je_dup D22_8 rfl rfl
theorem D22_9 : decode (jt_code 22) 9 = .ok (.getfield 110, 3) := by decide +kernel
theorem E22_9 {call : jv_F} {l0 l1 : Option Value}  {st : List Value} {m : Nat} {I : Nat → Int32} {A : Nat → Nat → Int32} {L : Nat → Nat → Int64} {rest : Nat → Option jv_C} {z : Nat × Nat} : jv_ev call 22 9 [l0, l1] (.ref m :: st) (jm_H m I A L rest z) = jv_ev call 22 12 [l0, l1] (.int (I 22) :: st) (jm_H m I A L rest z) := je_get D22_9 rfl (by decide) jm_g22
theorem D22_12 : decode (jt_code 22) 12 = .ok (.iconst 1, 1) := by decide +kernel
theorem E22_12 {call : jv_F} {l0 l1 : Option Value}  {st : List Value} {h : jv_H} : jv_ev call 22 12 [l0, l1] st h = jv_ev call 22 13 [l0, l1] (.int (nI 1) :: st) h := je_iconst D22_12 rfl (by decide)
theorem D22_13 : decode (jt_code 22) 13 = .ok (.isub, 1) := by decide +kernel
theorem E22_13 {call : jv_F} {l0 l1 : Option Value} {x y : Int32} {st : List Value} {h : jv_H} : jv_ev call 22 13 [l0, l1] (.int y :: .int x :: st) h = jv_ev call 22 14 [l0, l1] (.int (x - y) :: st) h := je_b2 (f := fun x y => x - y) D22_13 rfl (fun _ => rfl)
theorem D22_14 : decode (jt_code 22) 14 = .ok (.putfield 110, 3) := by decide +kernel
theorem E22_14 {call : jv_F} {l0 l1 : Option Value} {v : Int32} {st : List Value} {m : Nat} {I : Nat → Int32} {A : Nat → Nat → Int32} {L : Nat → Nat → Int64} {rest : Nat → Option jv_C} {z : Nat × Nat} : jv_ev call 22 14 [l0, l1] (.int v :: .ref m :: st) (jm_H m I A L rest z) = jv_ev call 22 17 [l0, l1] st (jm_H m (upd I 22 v) A L rest z) := je_put D22_14 rfl (by decide) (by decide) jm_p22
theorem D22_17 : decode (jt_code 22) 17 = .ok (.return_, 1) := by decide +kernel
theorem E22_17 {call : jv_F} {l0 l1 : Option Value}  {h : jv_H} : jv_ev call 22 17 [l0, l1] [] h = some (none, h) := je_ret D22_17 rfl
/-! method 23: DrumMachineModel.mayGo -/
theorem N23 {d : Nat} {b : Nat} {a0 : Int32} {h : jv_H} : jv_run (d + 1) 23 [.ref b, .int a0] h = jv_ev (jv_run d) 23 0 [some (.ref b), some (.int a0)] [] h := jv_run_eq (Nat.le_of_ble_eq_true rfl) rfl
theorem D23_0 : decode (jt_code 23) 0 = .ok (.aload_n 0, 1) := by decide +kernel
theorem E23_0 {call : jv_F} {l1 : Option Value} {a : Nat} {st : List Value} {h : jv_H} : jv_ev call 23 0 [some (.ref a), l1] st h = jv_ev call 23 1 [some (.ref a), l1] (.ref a :: st) h := je_aload_n (r := some a) D23_0 rfl rfl
theorem D23_1 : decode (jt_code 23) 1 = .ok (.getfield 70, 3) := by decide +kernel
theorem E23_1 {call : jv_F} {l0 l1 : Option Value}  {st : List Value} {m : Nat} {I : Nat → Int32} {A : Nat → Nat → Int32} {L : Nat → Nat → Int64} {rest : Nat → Option jv_C} {z : Nat × Nat} : jv_ev call 23 1 [l0, l1] (.ref m :: st) (jm_H m I A L rest z) = jv_ev call 23 4 [l0, l1] (.ref (m + 19) :: st) (jm_H m I A L rest z) := je_get D23_1 rfl (by decide) jm_g23
theorem D23_4 : decode (jt_code 23) 4 = .ok (.iload_n 1, 1) := by decide +kernel
theorem E23_4 {call : jv_F} {l0 : Option Value} {x : Int32} {st : List Value} {h : jv_H} : jv_ev call 23 4 [l0, some (.int x)] st h = jv_ev call 23 5 [l0, some (.int x)] (.int x :: st) h := je_iload_n D23_4 rfl rfl
theorem D23_5 : decode (jt_code 23) 5 = .ok (.iaload, 1) := by decide +kernel
theorem E23_5 {call : jv_F} {l0 l1 : Option Value} {i : Nat} {st : List Value} {m : Nat} {I : Nat → Int32} {A : Nat → Nat → Int32} {L : Nat → Nat → Int64} {rest : Nat → Option jv_C} {z : Nat × Nat} (hi : i < 17) : jv_ev call 23 5 [l0, l1] (.int (nI i) :: .ref (m + 19) :: st) (jm_H m I A L rest z) = jv_ev call 23 6 [l0, l1] (.int (A 23 i) :: st) (jm_H m I A L rest z) := je_iald D23_5 rfl (jm_l23 hi)
theorem D23_6 : decode (jt_code 23) 6 = .ok (.ifCond .lt 29, 3) := by decide +kernel
theorem E23_6 {call : jv_F} {l0 l1 : Option Value} {x : Int32} {st : List Value} {h : jv_H} : jv_ev call 23 6 [l0, l1] (.int x :: st) h = if x < 0 then jv_ev call 23 35 [l0, l1] st h else jv_ev call 23 9 [l0, l1] st h := je_ifc D23_6 (by decide) rfl rfl
theorem D23_9 : decode (jt_code 23) 9 = .ok (.aload_n 0, 1) := by decide +kernel
theorem E23_9 {call : jv_F} {l1 : Option Value} {a : Nat} {st : List Value} {h : jv_H} : jv_ev call 23 9 [some (.ref a), l1] st h = jv_ev call 23 10 [some (.ref a), l1] (.ref a :: st) h := je_aload_n (r := some a) D23_9 rfl rfl
theorem D23_10 : decode (jt_code 23) 10 = .ok (.getfield 79, 3) := by decide +kernel
theorem E23_10 {call : jv_F} {l0 l1 : Option Value}  {st : List Value} {m : Nat} {I : Nat → Int32} {A : Nat → Nat → Int32} {L : Nat → Nat → Int64} {rest : Nat → Option jv_C} {z : Nat × Nat} : jv_ev call 23 10 [l0, l1] (.ref m :: st) (jm_H m I A L rest z) = jv_ev call 23 13 [l0, l1] (.ref (m + 22) :: st) (jm_H m I A L rest z) := je_get D23_10 rfl (by decide) jm_g26
theorem D23_13 : decode (jt_code 23) 13 = .ok (.iload_n 1, 1) := by decide +kernel
theorem E23_13 {call : jv_F} {l0 : Option Value} {x : Int32} {st : List Value} {h : jv_H} : jv_ev call 23 13 [l0, some (.int x)] st h = jv_ev call 23 14 [l0, some (.int x)] (.int x :: st) h := je_iload_n D23_13 rfl rfl
theorem D23_14 : decode (jt_code 23) 14 = .ok (.baload, 1) := by decide +kernel
theorem E23_14 {call : jv_F} {l0 l1 : Option Value} {i : Nat} {st : List Value} {m : Nat} {I : Nat → Int32} {A : Nat → Nat → Int32} {L : Nat → Nat → Int64} {rest : Nat → Option jv_C} {z : Nat × Nat} (hi : i < 17) : jv_ev call 23 14 [l0, l1] (.int (nI i) :: .ref (m + 22) :: st) (jm_H m I A L rest z) = jv_ev call 23 15 [l0, l1] (.int (A 26 i) :: st) (jm_H m I A L rest z) := je_bald D23_14 rfl (jm_l26 hi)
theorem D23_15 : decode (jt_code 23) 15 = .ok (.ifCond .ne 20, 3) := by decide +kernel
theorem E23_15 {call : jv_F} {l0 l1 : Option Value} {x : Int32} {st : List Value} {h : jv_H} : jv_ev call 23 15 [l0, l1] (.int x :: st) h = if ¬ x = 0 then jv_ev call 23 35 [l0, l1] st h else jv_ev call 23 18 [l0, l1] st h := je_ifc D23_15 (by decide) rfl rfl
theorem D23_18 : decode (jt_code 23) 18 = .ok (.aload_n 0, 1) := by decide +kernel
theorem E23_18 {call : jv_F} {l1 : Option Value} {a : Nat} {st : List Value} {h : jv_H} : jv_ev call 23 18 [some (.ref a), l1] st h = jv_ev call 23 19 [some (.ref a), l1] (.ref a :: st) h := je_aload_n (r := some a) D23_18 rfl rfl
theorem D23_19 : decode (jt_code 23) 19 = .ok (.aload_n 0, 1) := by decide +kernel
theorem E23_19 {call : jv_F} {l1 : Option Value} {a : Nat} {st : List Value} {h : jv_H} : jv_ev call 23 19 [some (.ref a), l1] st h = jv_ev call 23 20 [some (.ref a), l1] (.ref a :: st) h := je_aload_n (r := some a) D23_19 rfl rfl
theorem D23_20 : decode (jt_code 23) 20 = .ok (.getfield 70, 3) := by decide +kernel
theorem E23_20 {call : jv_F} {l0 l1 : Option Value}  {st : List Value} {m : Nat} {I : Nat → Int32} {A : Nat → Nat → Int32} {L : Nat → Nat → Int64} {rest : Nat → Option jv_C} {z : Nat × Nat} : jv_ev call 23 20 [l0, l1] (.ref m :: st) (jm_H m I A L rest z) = jv_ev call 23 23 [l0, l1] (.ref (m + 19) :: st) (jm_H m I A L rest z) := je_get D23_20 rfl (by decide) jm_g23
theorem D23_23 : decode (jt_code 23) 23 = .ok (.iload_n 1, 1) := by decide +kernel
theorem E23_23 {call : jv_F} {l0 : Option Value} {x : Int32} {st : List Value} {h : jv_H} : jv_ev call 23 23 [l0, some (.int x)] st h = jv_ev call 23 24 [l0, some (.int x)] (.int x :: st) h := je_iload_n D23_23 rfl rfl
theorem D23_24 : decode (jt_code 23) 24 = .ok (.iaload, 1) := by decide +kernel
theorem E23_24 {call : jv_F} {l0 l1 : Option Value} {i : Nat} {st : List Value} {m : Nat} {I : Nat → Int32} {A : Nat → Nat → Int32} {L : Nat → Nat → Int64} {rest : Nat → Option jv_C} {z : Nat × Nat} (hi : i < 17) : jv_ev call 23 24 [l0, l1] (.int (nI i) :: .ref (m + 19) :: st) (jm_H m I A L rest z) = jv_ev call 23 25 [l0, l1] (.int (A 23 i) :: st) (jm_H m I A L rest z) := je_iald D23_24 rfl (jm_l23 hi)
theorem D23_25 : decode (jt_code 23) 25 = .ok (.invokevirtual 191, 3) := by decide +kernel
theorem E23_25 {call : jv_F} {l0 l1 : Option Value} {v0 : Value}  {st : List Value} {m : Nat} {I : Nat → Int32} {A : Nat → Nat → Int32} {L : Nat → Nat → Int64} {rest : Nat → Option jv_C} {z : Nat × Nat} (hw : jv_wide st = true) (hc : (call 16 [.ref m, v0] (jm_H m I A L rest z)).isSome = true) : jv_ev call 23 25 [l0, l1] (v0 :: .ref m :: st) (jm_H m I A L rest z) = jv_ev call 23 28 [l0, l1] ((((call 16 [.ref m, v0] (jm_H m I A L rest z)).getD (none, (jm_H m I A L rest z))).1).toList ++ st) ((call 16 [.ref m, v0] (jm_H m I A L rest z)).getD (none, (jm_H m I A L rest z))).2 := by
  obtain ⟨⟨r, h'⟩, hv⟩ := Option.isSome_iff_exists.mp hc
  rw [hv]
  exact je_virt (y := 16) (as := [v0]) D23_25 rfl (by decide) (by decide) rfl jm_cl hw hv
theorem D23_28 : decode (jt_code 23) 28 = .ok (.ifCond .ne 7, 3) := by decide +kernel
theorem E23_28 {call : jv_F} {l0 l1 : Option Value} {x : Int32} {st : List Value} {h : jv_H} : jv_ev call 23 28 [l0, l1] (.int x :: st) h = if ¬ x = 0 then jv_ev call 23 35 [l0, l1] st h else jv_ev call 23 31 [l0, l1] st h := je_ifc D23_28 (by decide) rfl rfl
theorem D23_31 : decode (jt_code 23) 31 = .ok (.iconst 1, 1) := by decide +kernel
theorem E23_31 {call : jv_F} {l0 l1 : Option Value}  {st : List Value} {h : jv_H} : jv_ev call 23 31 [l0, l1] st h = jv_ev call 23 32 [l0, l1] (.int (nI 1) :: st) h := je_iconst D23_31 rfl (by decide)
theorem D23_32 : decode (jt_code 23) 32 = .ok (.goto 4, 3) := by decide +kernel
theorem E23_32 {call : jv_F} {l0 l1 : Option Value}  {st : List Value} {h : jv_H} : jv_ev call 23 32 [l0, l1] st h = jv_ev call 23 36 [l0, l1] st h := je_goto D23_32 (by decide)
theorem D23_35 : decode (jt_code 23) 35 = .ok (.iconst 0, 1) := by decide +kernel
theorem E23_35 {call : jv_F} {l0 l1 : Option Value}  {st : List Value} {h : jv_H} : jv_ev call 23 35 [l0, l1] st h = jv_ev call 23 36 [l0, l1] (.int (nI 0) :: st) h := je_iconst D23_35 rfl (by decide)
theorem D23_36 : decode (jt_code 23) 36 = .ok (.ireturn, 1) := by decide +kernel
theorem E23_36 {call : jv_F} {l0 l1 : Option Value} {v : Int32} {h : jv_H} (hn : narrow .boolean (.int v) = .int v) (hf : fits .boolean (.int v) = true) : jv_ev call 23 36 [l0, l1] [.int v] h = some (some (.int v), h) := je_iret (ty := .boolean) D23_36 rfl hn hf
/-! method 24: DrumMachineModel.choose -/
theorem N24 {d : Nat} {b : Nat} {h : jv_H} : jv_run (d + 1) 24 [.ref b] h = jv_ev (jv_run d) 24 0 [some (.ref b), none, none] [] h := jv_run_eq (Nat.le_of_ble_eq_true rfl) rfl
theorem D24_0 : decode (jt_code 24) 0 = .ok (.iconst (-1), 1) := by decide +kernel
theorem E24_0 {call : jv_F} {l0 l1 l2 : Option Value}  {st : List Value} {h : jv_H} : jv_ev call 24 0 [l0, l1, l2] st h = jv_ev call 24 1 [l0, l1, l2] (.int (-1) :: st) h := je_iconst D24_0 rfl (by decide)
theorem D24_1 : decode (jt_code 24) 1 = .ok (.istore_n 1, 1) := by decide +kernel
theorem E24_1 {call : jv_F} {l0 l1 l2 : Option Value} {x : Int32} {st : List Value} {h : jv_H} (hk : ¬ jv_is2 (some l0) = true) : jv_ev call 24 1 [l0, l1, l2] (.int x :: st) h = jv_ev call 24 2 [l0, some (.int x), l2] st h := je_istore_n D24_1 rfl (Nat.le_of_ble_eq_true rfl) (by show jv_st1 _ 1 _ = _; simp only [jv_st1, jv_kill, List.getElem?_cons_succ, List.getElem?_cons_zero, hk, if_false]; rfl)
theorem D24_2 : decode (jt_code 24) 2 = .ok (.iconst 0, 1) := by decide +kernel
theorem E24_2 {call : jv_F} {l0 l1 l2 : Option Value}  {st : List Value} {h : jv_H} : jv_ev call 24 2 [l0, l1, l2] st h = jv_ev call 24 3 [l0, l1, l2] (.int (nI 0) :: st) h := je_iconst D24_2 rfl (by decide)
theorem D24_3 : decode (jt_code 24) 3 = .ok (.istore_n 2, 1) := by decide +kernel
theorem E24_3 {call : jv_F} {l0 l1 l2 : Option Value} {x : Int32} {st : List Value} {h : jv_H} (hk : ¬ jv_is2 (some l1) = true) : jv_ev call 24 3 [l0, l1, l2] (.int x :: st) h = jv_ev call 24 4 [l0, l1, some (.int x)] st h := je_istore_n D24_3 rfl (Nat.le_of_ble_eq_true rfl) (by show jv_st1 _ 2 _ = _; simp only [jv_st1, jv_kill, List.getElem?_cons_succ, List.getElem?_cons_zero, hk, if_false]; rfl)
theorem D24_4 : decode (jt_code 24) 4 = .ok (.iload_n 2, 1) := by decide +kernel
theorem E24_4 {call : jv_F} {l0 l1 : Option Value} {x : Int32} {st : List Value} {h : jv_H} : jv_ev call 24 4 [l0, l1, some (.int x)] st h = jv_ev call 24 5 [l0, l1, some (.int x)] (.int x :: st) h := je_iload_n D24_4 rfl rfl
theorem D24_5 : decode (jt_code 24) 5 = .ok (.aload_n 0, 1) := by decide +kernel
theorem E24_5 {call : jv_F} {l1 l2 : Option Value} {a : Nat} {st : List Value} {h : jv_H} : jv_ev call 24 5 [some (.ref a), l1, l2] st h = jv_ev call 24 6 [some (.ref a), l1, l2] (.ref a :: st) h := je_aload_n (r := some a) D24_5 rfl rfl
theorem D24_6 : decode (jt_code 24) 6 = .ok (.getfield 7, 3) := by decide +kernel
theorem E24_6 {call : jv_F} {l0 l1 l2 : Option Value}  {st : List Value} {m : Nat} {I : Nat → Int32} {A : Nat → Nat → Int32} {L : Nat → Nat → Int64} {rest : Nat → Option jv_C} {z : Nat × Nat} : jv_ev call 24 6 [l0, l1, l2] (.ref m :: st) (jm_H m I A L rest z) = jv_ev call 24 9 [l0, l1, l2] (.int (I 0) :: st) (jm_H m I A L rest z) := je_get D24_6 rfl (by decide) jm_g0
theorem D24_9 : decode (jt_code 24) 9 = .ok (.if_icmp .ge 40, 3) := by decide +kernel
theorem E24_9 {call : jv_F} {l0 l1 l2 : Option Value} {x y : Int32} {st : List Value} {h : jv_H} : jv_ev call 24 9 [l0, l1, l2] (.int y :: .int x :: st) h = if y ≤ x then jv_ev call 24 49 [l0, l1, l2] st h else jv_ev call 24 12 [l0, l1, l2] st h := je_icmp D24_9 (by decide) rfl rfl
theorem D24_12 : decode (jt_code 24) 12 = .ok (.iload_n 1, 1) := by decide +kernel
theorem E24_12 {call : jv_F} {l0 l2 : Option Value} {x : Int32} {st : List Value} {h : jv_H} : jv_ev call 24 12 [l0, some (.int x), l2] st h = jv_ev call 24 13 [l0, some (.int x), l2] (.int x :: st) h := je_iload_n D24_12 rfl rfl
theorem D24_13 : decode (jt_code 24) 13 = .ok (.ifCond .ge 36, 3) := by decide +kernel
theorem E24_13 {call : jv_F} {l0 l1 l2 : Option Value} {x : Int32} {st : List Value} {h : jv_H} : jv_ev call 24 13 [l0, l1, l2] (.int x :: st) h = if 0 ≤ x then jv_ev call 24 49 [l0, l1, l2] st h else jv_ev call 24 16 [l0, l1, l2] st h := je_ifc D24_13 (by decide) rfl rfl
theorem D24_16 : decode (jt_code 24) 16 = .ok (.aload_n 0, 1) := by decide +kernel
theorem E24_16 {call : jv_F} {l1 l2 : Option Value} {a : Nat} {st : List Value} {h : jv_H} : jv_ev call 24 16 [some (.ref a), l1, l2] st h = jv_ev call 24 17 [some (.ref a), l1, l2] (.ref a :: st) h := je_aload_n (r := some a) D24_16 rfl rfl
theorem D24_17 : decode (jt_code 24) 17 = .ok (.iload_n 2, 1) := by decide +kernel
theorem E24_17 {call : jv_F} {l0 l1 : Option Value} {x : Int32} {st : List Value} {h : jv_H} : jv_ev call 24 17 [l0, l1, some (.int x)] st h = jv_ev call 24 18 [l0, l1, some (.int x)] (.int x :: st) h := je_iload_n D24_17 rfl rfl
theorem D24_18 : decode (jt_code 24) 18 = .ok (.invokevirtual 194, 3) := by decide +kernel
theorem E24_18 {call : jv_F} {l0 l1 l2 : Option Value} {v0 : Value}  {st : List Value} {m : Nat} {I : Nat → Int32} {A : Nat → Nat → Int32} {L : Nat → Nat → Int64} {rest : Nat → Option jv_C} {z : Nat × Nat} (hw : jv_wide st = true) (hc : (call 23 [.ref m, v0] (jm_H m I A L rest z)).isSome = true) : jv_ev call 24 18 [l0, l1, l2] (v0 :: .ref m :: st) (jm_H m I A L rest z) = jv_ev call 24 21 [l0, l1, l2] ((((call 23 [.ref m, v0] (jm_H m I A L rest z)).getD (none, (jm_H m I A L rest z))).1).toList ++ st) ((call 23 [.ref m, v0] (jm_H m I A L rest z)).getD (none, (jm_H m I A L rest z))).2 := by
  obtain ⟨⟨r, h'⟩, hv⟩ := Option.isSome_iff_exists.mp hc
  rw [hv]
  exact je_virt (y := 23) (as := [v0]) D24_18 rfl (by decide) (by decide) rfl jm_cl hw hv
theorem D24_21 : decode (jt_code 24) 21 = .ok (.ifCond .eq 22, 3) := by decide +kernel
theorem E24_21 {call : jv_F} {l0 l1 l2 : Option Value} {x : Int32} {st : List Value} {h : jv_H} : jv_ev call 24 21 [l0, l1, l2] (.int x :: st) h = if x = 0 then jv_ev call 24 43 [l0, l1, l2] st h else jv_ev call 24 24 [l0, l1, l2] st h := je_ifc D24_21 (by decide) rfl rfl
theorem D24_24 : decode (jt_code 24) 24 = .ok (.aload_n 0, 1) := by decide +kernel
theorem E24_24 {call : jv_F} {l1 l2 : Option Value} {a : Nat} {st : List Value} {h : jv_H} : jv_ev call 24 24 [some (.ref a), l1, l2] st h = jv_ev call 24 25 [some (.ref a), l1, l2] (.ref a :: st) h := je_aload_n (r := some a) D24_24 rfl rfl
theorem D24_25 : decode (jt_code 24) 25 = .ok (.getfield 73, 3) := by decide +kernel
theorem E24_25 {call : jv_F} {l0 l1 l2 : Option Value}  {st : List Value} {m : Nat} {I : Nat → Int32} {A : Nat → Nat → Int32} {L : Nat → Nat → Int64} {rest : Nat → Option jv_C} {z : Nat × Nat} : jv_ev call 24 25 [l0, l1, l2] (.ref m :: st) (jm_H m I A L rest z) = jv_ev call 24 28 [l0, l1, l2] (.ref (m + 20) :: st) (jm_H m I A L rest z) := je_get D24_25 rfl (by decide) jm_g24
theorem D24_28 : decode (jt_code 24) 28 = .ok (.iload_n 2, 1) := by decide +kernel
theorem E24_28 {call : jv_F} {l0 l1 : Option Value} {x : Int32} {st : List Value} {h : jv_H} : jv_ev call 24 28 [l0, l1, some (.int x)] st h = jv_ev call 24 29 [l0, l1, some (.int x)] (.int x :: st) h := je_iload_n D24_28 rfl rfl
theorem D24_29 : decode (jt_code 24) 29 = .ok (.iaload, 1) := by decide +kernel
theorem E24_29 {call : jv_F} {l0 l1 l2 : Option Value} {i : Nat} {st : List Value} {m : Nat} {I : Nat → Int32} {A : Nat → Nat → Int32} {L : Nat → Nat → Int64} {rest : Nat → Option jv_C} {z : Nat × Nat} (hi : i < 17) : jv_ev call 24 29 [l0, l1, l2] (.int (nI i) :: .ref (m + 20) :: st) (jm_H m I A L rest z) = jv_ev call 24 30 [l0, l1, l2] (.int (A 24 i) :: st) (jm_H m I A L rest z) := je_iald D24_29 rfl (jm_l24 hi)
theorem D24_30 : decode (jt_code 24) 30 = .ok (.aload_n 0, 1) := by decide +kernel
theorem E24_30 {call : jv_F} {l1 l2 : Option Value} {a : Nat} {st : List Value} {h : jv_H} : jv_ev call 24 30 [some (.ref a), l1, l2] st h = jv_ev call 24 31 [some (.ref a), l1, l2] (.ref a :: st) h := je_aload_n (r := some a) D24_30 rfl rfl
theorem D24_31 : decode (jt_code 24) 31 = .ok (.getfield 76, 3) := by decide +kernel
theorem E24_31 {call : jv_F} {l0 l1 l2 : Option Value}  {st : List Value} {m : Nat} {I : Nat → Int32} {A : Nat → Nat → Int32} {L : Nat → Nat → Int64} {rest : Nat → Option jv_C} {z : Nat × Nat} : jv_ev call 24 31 [l0, l1, l2] (.ref m :: st) (jm_H m I A L rest z) = jv_ev call 24 34 [l0, l1, l2] (.ref (m + 21) :: st) (jm_H m I A L rest z) := je_get D24_31 rfl (by decide) jm_g25
theorem D24_34 : decode (jt_code 24) 34 = .ok (.iload_n 2, 1) := by decide +kernel
theorem E24_34 {call : jv_F} {l0 l1 : Option Value} {x : Int32} {st : List Value} {h : jv_H} : jv_ev call 24 34 [l0, l1, some (.int x)] st h = jv_ev call 24 35 [l0, l1, some (.int x)] (.int x :: st) h := je_iload_n D24_34 rfl rfl
theorem D24_35 : decode (jt_code 24) 35 = .ok (.iaload, 1) := by decide +kernel
theorem E24_35 {call : jv_F} {l0 l1 l2 : Option Value} {i : Nat} {st : List Value} {m : Nat} {I : Nat → Int32} {A : Nat → Nat → Int32} {L : Nat → Nat → Int64} {rest : Nat → Option jv_C} {z : Nat × Nat} (hi : i < 17) : jv_ev call 24 35 [l0, l1, l2] (.int (nI i) :: .ref (m + 21) :: st) (jm_H m I A L rest z) = jv_ev call 24 36 [l0, l1, l2] (.int (A 25 i) :: st) (jm_H m I A L rest z) := je_iald D24_35 rfl (jm_l25 hi)
theorem D24_36 : decode (jt_code 24) 36 = .ok (.iconst 1, 1) := by decide +kernel
theorem E24_36 {call : jv_F} {l0 l1 l2 : Option Value}  {st : List Value} {h : jv_H} : jv_ev call 24 36 [l0, l1, l2] st h = jv_ev call 24 37 [l0, l1, l2] (.int (nI 1) :: st) h := je_iconst D24_36 rfl (by decide)
theorem D24_37 : decode (jt_code 24) 37 = .ok (.iadd, 1) := by decide +kernel
theorem E24_37 {call : jv_F} {l0 l1 l2 : Option Value} {x y : Int32} {st : List Value} {h : jv_H} : jv_ev call 24 37 [l0, l1, l2] (.int y :: .int x :: st) h = jv_ev call 24 38 [l0, l1, l2] (.int (x + y) :: st) h := je_b2 (f := fun x y => x + y) D24_37 rfl (fun _ => rfl)
theorem D24_38 : decode (jt_code 24) 38 = .ok (.if_icmp .le 5, 3) := by decide +kernel
theorem E24_38 {call : jv_F} {l0 l1 l2 : Option Value} {x y : Int32} {st : List Value} {h : jv_H} : jv_ev call 24 38 [l0, l1, l2] (.int y :: .int x :: st) h = if x ≤ y then jv_ev call 24 43 [l0, l1, l2] st h else jv_ev call 24 41 [l0, l1, l2] st h := je_icmp D24_38 (by decide) rfl rfl
theorem D24_41 : decode (jt_code 24) 41 = .ok (.iload_n 2, 1) := by decide +kernel
theorem E24_41 {call : jv_F} {l0 l1 : Option Value} {x : Int32} {st : List Value} {h : jv_H} : jv_ev call 24 41 [l0, l1, some (.int x)] st h = jv_ev call 24 42 [l0, l1, some (.int x)] (.int x :: st) h := je_iload_n D24_41 rfl rfl
theorem D24_42 : decode (jt_code 24) 42 = .ok (.istore_n 1, 1) := by decide +kernel
theorem E24_42 {call : jv_F} {l0 l1 l2 : Option Value} {x : Int32} {st : List Value} {h : jv_H} (hk : ¬ jv_is2 (some l0) = true) : jv_ev call 24 42 [l0, l1, l2] (.int x :: st) h = jv_ev call 24 43 [l0, some (.int x), l2] st h := je_istore_n D24_42 rfl (Nat.le_of_ble_eq_true rfl) (by show jv_st1 _ 1 _ = _; simp only [jv_st1, jv_kill, List.getElem?_cons_succ, List.getElem?_cons_zero, hk, if_false]; rfl)
theorem D24_43 : decode (jt_code 24) 43 = .ok (.iinc 2 1, 3) := by decide +kernel
theorem E24_43 {call : jv_F} {l0 l1 : Option Value} {x : Int32} {st : List Value} {h : jv_H} (hk : ¬ jv_is2 (some l1) = true) : jv_ev call 24 43 [l0, l1, some (.int x)] st h = jv_ev call 24 46 [l0, l1, some (.int (x + (nI 1)))] st h := je_iinc D24_43 rfl rfl (v := x + (nI 1)) (by rfl) (by show jv_st1 _ 2 _ = _; simp only [jv_st1, jv_kill, List.getElem?_cons_succ, List.getElem?_cons_zero, hk, if_false]; rfl)
theorem D24_46 : decode (jt_code 24) 46 = .ok (.goto (-42), 3) := by decide +kernel
theorem E24_46 {call : jv_F} {l0 l1 l2 : Option Value}  {st : List Value} {h : jv_H} : jv_ev call 24 46 [l0, l1, l2] st h = jv_ev call 24 4 [l0, l1, l2] st h := je_goto D24_46 (by decide)
theorem D24_49 : decode (jt_code 24) 49 = .ok (.iload_n 1, 1) := by decide +kernel
theorem E24_49 {call : jv_F} {l0 l2 : Option Value} {x : Int32} {st : List Value} {h : jv_H} : jv_ev call 24 49 [l0, some (.int x), l2] st h = jv_ev call 24 50 [l0, some (.int x), l2] (.int x :: st) h := je_iload_n D24_49 rfl rfl
theorem D24_50 : decode (jt_code 24) 50 = .ok (.ifCond .ge 71, 3) := by decide +kernel
theorem E24_50 {call : jv_F} {l0 l1 l2 : Option Value} {x : Int32} {st : List Value} {h : jv_H} : jv_ev call 24 50 [l0, l1, l2] (.int x :: st) h = if 0 ≤ x then jv_ev call 24 121 [l0, l1, l2] st h else jv_ev call 24 53 [l0, l1, l2] st h := je_ifc D24_50 (by decide) rfl rfl
theorem D24_53 : decode (jt_code 24) 53 = .ok (.iconst 0, 1) := by decide +kernel
theorem E24_53 {call : jv_F} {l0 l1 l2 : Option Value}  {st : List Value} {h : jv_H} : jv_ev call 24 53 [l0, l1, l2] st h = jv_ev call 24 54 [l0, l1, l2] (.int (nI 0) :: st) h := je_iconst D24_53 rfl (by decide)
theorem D24_54 : decode (jt_code 24) 54 = .ok (.istore_n 2, 1) := by decide +kernel
theorem E24_54 {call : jv_F} {l0 l1 l2 : Option Value} {x : Int32} {st : List Value} {h : jv_H} (hk : ¬ jv_is2 (some l1) = true) : jv_ev call 24 54 [l0, l1, l2] (.int x :: st) h = jv_ev call 24 55 [l0, l1, some (.int x)] st h := je_istore_n D24_54 rfl (Nat.le_of_ble_eq_true rfl) (by show jv_st1 _ 2 _ = _; simp only [jv_st1, jv_kill, List.getElem?_cons_succ, List.getElem?_cons_zero, hk, if_false]; rfl)
theorem D24_55 : decode (jt_code 24) 55 = .ok (.iload_n 2, 1) := by decide +kernel
theorem E24_55 {call : jv_F} {l0 l1 : Option Value} {x : Int32} {st : List Value} {h : jv_H} : jv_ev call 24 55 [l0, l1, some (.int x)] st h = jv_ev call 24 56 [l0, l1, some (.int x)] (.int x :: st) h := je_iload_n D24_55 rfl rfl
theorem D24_56 : decode (jt_code 24) 56 = .ok (.aload_n 0, 1) := by decide +kernel
theorem E24_56 {call : jv_F} {l1 l2 : Option Value} {a : Nat} {st : List Value} {h : jv_H} : jv_ev call 24 56 [some (.ref a), l1, l2] st h = jv_ev call 24 57 [some (.ref a), l1, l2] (.ref a :: st) h := je_aload_n (r := some a) D24_56 rfl rfl
theorem D24_57 : decode (jt_code 24) 57 = .ok (.getfield 7, 3) := by decide +kernel
theorem E24_57 {call : jv_F} {l0 l1 l2 : Option Value}  {st : List Value} {m : Nat} {I : Nat → Int32} {A : Nat → Nat → Int32} {L : Nat → Nat → Int64} {rest : Nat → Option jv_C} {z : Nat × Nat} : jv_ev call 24 57 [l0, l1, l2] (.ref m :: st) (jm_H m I A L rest z) = jv_ev call 24 60 [l0, l1, l2] (.int (I 0) :: st) (jm_H m I A L rest z) := je_get D24_57 rfl (by decide) jm_g0
theorem D24_60 : decode (jt_code 24) 60 = .ok (.if_icmp .ge 61, 3) := by decide +kernel
theorem E24_60 {call : jv_F} {l0 l1 l2 : Option Value} {x y : Int32} {st : List Value} {h : jv_H} : jv_ev call 24 60 [l0, l1, l2] (.int y :: .int x :: st) h = if y ≤ x then jv_ev call 24 121 [l0, l1, l2] st h else jv_ev call 24 63 [l0, l1, l2] st h := je_icmp D24_60 (by decide) rfl rfl
theorem D24_63 : decode (jt_code 24) 63 = .ok (.aload_n 0, 1) := by decide +kernel
theorem E24_63 {call : jv_F} {l1 l2 : Option Value} {a : Nat} {st : List Value} {h : jv_H} : jv_ev call 24 63 [some (.ref a), l1, l2] st h = jv_ev call 24 64 [some (.ref a), l1, l2] (.ref a :: st) h := je_aload_n (r := some a) D24_63 rfl rfl
theorem D24_64 : decode (jt_code 24) 64 = .ok (.iload_n 2, 1) := by decide +kernel
theorem E24_64 {call : jv_F} {l0 l1 : Option Value} {x : Int32} {st : List Value} {h : jv_H} : jv_ev call 24 64 [l0, l1, some (.int x)] st h = jv_ev call 24 65 [l0, l1, some (.int x)] (.int x :: st) h := je_iload_n D24_64 rfl rfl
theorem D24_65 : decode (jt_code 24) 65 = .ok (.invokevirtual 194, 3) := by decide +kernel
theorem E24_65 {call : jv_F} {l0 l1 l2 : Option Value} {v0 : Value}  {st : List Value} {m : Nat} {I : Nat → Int32} {A : Nat → Nat → Int32} {L : Nat → Nat → Int64} {rest : Nat → Option jv_C} {z : Nat × Nat} (hw : jv_wide st = true) (hc : (call 23 [.ref m, v0] (jm_H m I A L rest z)).isSome = true) : jv_ev call 24 65 [l0, l1, l2] (v0 :: .ref m :: st) (jm_H m I A L rest z) = jv_ev call 24 68 [l0, l1, l2] ((((call 23 [.ref m, v0] (jm_H m I A L rest z)).getD (none, (jm_H m I A L rest z))).1).toList ++ st) ((call 23 [.ref m, v0] (jm_H m I A L rest z)).getD (none, (jm_H m I A L rest z))).2 := by
  obtain ⟨⟨r, h'⟩, hv⟩ := Option.isSome_iff_exists.mp hc
  rw [hv]
  exact je_virt (y := 23) (as := [v0]) D24_65 rfl (by decide) (by decide) rfl jm_cl hw hv
theorem D24_68 : decode (jt_code 24) 68 = .ok (.ifCond .eq 47, 3) := by decide +kernel
theorem E24_68 {call : jv_F} {l0 l1 l2 : Option Value} {x : Int32} {st : List Value} {h : jv_H} : jv_ev call 24 68 [l0, l1, l2] (.int x :: st) h = if x = 0 then jv_ev call 24 115 [l0, l1, l2] st h else jv_ev call 24 71 [l0, l1, l2] st h := je_ifc D24_68 (by decide) rfl rfl
theorem D24_71 : decode (jt_code 24) 71 = .ok (.aload_n 0, 1) := by decide +kernel
theorem E24_71 {call : jv_F} {l1 l2 : Option Value} {a : Nat} {st : List Value} {h : jv_H} : jv_ev call 24 71 [some (.ref a), l1, l2] st h = jv_ev call 24 72 [some (.ref a), l1, l2] (.ref a :: st) h := je_aload_n (r := some a) D24_71 rfl rfl
theorem D24_72 : decode (jt_code 24) 72 = .ok (.getfield 73, 3) := by decide +kernel
theorem E24_72 {call : jv_F} {l0 l1 l2 : Option Value}  {st : List Value} {m : Nat} {I : Nat → Int32} {A : Nat → Nat → Int32} {L : Nat → Nat → Int64} {rest : Nat → Option jv_C} {z : Nat × Nat} : jv_ev call 24 72 [l0, l1, l2] (.ref m :: st) (jm_H m I A L rest z) = jv_ev call 24 75 [l0, l1, l2] (.ref (m + 20) :: st) (jm_H m I A L rest z) := je_get D24_72 rfl (by decide) jm_g24
theorem D24_75 : decode (jt_code 24) 75 = .ok (.iload_n 2, 1) := by decide +kernel
theorem E24_75 {call : jv_F} {l0 l1 : Option Value} {x : Int32} {st : List Value} {h : jv_H} : jv_ev call 24 75 [l0, l1, some (.int x)] st h = jv_ev call 24 76 [l0, l1, some (.int x)] (.int x :: st) h := je_iload_n D24_75 rfl rfl
theorem D24_76 : decode (jt_code 24) 76 = .ok (.iaload, 1) := by decide +kernel
theorem E24_76 {call : jv_F} {l0 l1 l2 : Option Value} {i : Nat} {st : List Value} {m : Nat} {I : Nat → Int32} {A : Nat → Nat → Int32} {L : Nat → Nat → Int64} {rest : Nat → Option jv_C} {z : Nat × Nat} (hi : i < 17) : jv_ev call 24 76 [l0, l1, l2] (.int (nI i) :: .ref (m + 20) :: st) (jm_H m I A L rest z) = jv_ev call 24 77 [l0, l1, l2] (.int (A 24 i) :: st) (jm_H m I A L rest z) := je_iald D24_76 rfl (jm_l24 hi)
theorem D24_77 : decode (jt_code 24) 77 = .ok (.ifCond .le 38, 3) := by decide +kernel
theorem E24_77 {call : jv_F} {l0 l1 l2 : Option Value} {x : Int32} {st : List Value} {h : jv_H} : jv_ev call 24 77 [l0, l1, l2] (.int x :: st) h = if x ≤ 0 then jv_ev call 24 115 [l0, l1, l2] st h else jv_ev call 24 80 [l0, l1, l2] st h := je_ifc D24_77 (by decide) rfl rfl
theorem D24_80 : decode (jt_code 24) 80 = .ok (.iload_n 1, 1) := by decide +kernel
theorem E24_80 {call : jv_F} {l0 l2 : Option Value} {x : Int32} {st : List Value} {h : jv_H} : jv_ev call 24 80 [l0, some (.int x), l2] st h = jv_ev call 24 81 [l0, some (.int x), l2] (.int x :: st) h := je_iload_n D24_80 rfl rfl
theorem D24_81 : decode (jt_code 24) 81 = .ok (.ifCond .lt 32, 3) := by decide +kernel
theorem E24_81 {call : jv_F} {l0 l1 l2 : Option Value} {x : Int32} {st : List Value} {h : jv_H} : jv_ev call 24 81 [l0, l1, l2] (.int x :: st) h = if x < 0 then jv_ev call 24 113 [l0, l1, l2] st h else jv_ev call 24 84 [l0, l1, l2] st h := je_ifc D24_81 (by decide) rfl rfl
theorem D24_84 : decode (jt_code 24) 84 = .ok (.aload_n 0, 1) := by decide +kernel
theorem E24_84 {call : jv_F} {l1 l2 : Option Value} {a : Nat} {st : List Value} {h : jv_H} : jv_ev call 24 84 [some (.ref a), l1, l2] st h = jv_ev call 24 85 [some (.ref a), l1, l2] (.ref a :: st) h := je_aload_n (r := some a) D24_84 rfl rfl
theorem D24_85 : decode (jt_code 24) 85 = .ok (.getfield 76, 3) := by decide +kernel
theorem E24_85 {call : jv_F} {l0 l1 l2 : Option Value}  {st : List Value} {m : Nat} {I : Nat → Int32} {A : Nat → Nat → Int32} {L : Nat → Nat → Int64} {rest : Nat → Option jv_C} {z : Nat × Nat} : jv_ev call 24 85 [l0, l1, l2] (.ref m :: st) (jm_H m I A L rest z) = jv_ev call 24 88 [l0, l1, l2] (.ref (m + 21) :: st) (jm_H m I A L rest z) := je_get D24_85 rfl (by decide) jm_g25
theorem D24_88 : decode (jt_code 24) 88 = .ok (.iload_n 2, 1) := by decide +kernel
theorem E24_88 {call : jv_F} {l0 l1 : Option Value} {x : Int32} {st : List Value} {h : jv_H} : jv_ev call 24 88 [l0, l1, some (.int x)] st h = jv_ev call 24 89 [l0, l1, some (.int x)] (.int x :: st) h := je_iload_n D24_88 rfl rfl
theorem D24_89 : decode (jt_code 24) 89 = .ok (.iaload, 1) := by decide +kernel
theorem E24_89 {call : jv_F} {l0 l1 l2 : Option Value} {i : Nat} {st : List Value} {m : Nat} {I : Nat → Int32} {A : Nat → Nat → Int32} {L : Nat → Nat → Int64} {rest : Nat → Option jv_C} {z : Nat × Nat} (hi : i < 17) : jv_ev call 24 89 [l0, l1, l2] (.int (nI i) :: .ref (m + 21) :: st) (jm_H m I A L rest z) = jv_ev call 24 90 [l0, l1, l2] (.int (A 25 i) :: st) (jm_H m I A L rest z) := je_iald D24_89 rfl (jm_l25 hi)
theorem D24_90 : decode (jt_code 24) 90 = .ok (.aload_n 0, 1) := by decide +kernel
theorem E24_90 {call : jv_F} {l1 l2 : Option Value} {a : Nat} {st : List Value} {h : jv_H} : jv_ev call 24 90 [some (.ref a), l1, l2] st h = jv_ev call 24 91 [some (.ref a), l1, l2] (.ref a :: st) h := je_aload_n (r := some a) D24_90 rfl rfl
theorem D24_91 : decode (jt_code 24) 91 = .ok (.getfield 73, 3) := by decide +kernel
theorem E24_91 {call : jv_F} {l0 l1 l2 : Option Value}  {st : List Value} {m : Nat} {I : Nat → Int32} {A : Nat → Nat → Int32} {L : Nat → Nat → Int64} {rest : Nat → Option jv_C} {z : Nat × Nat} : jv_ev call 24 91 [l0, l1, l2] (.ref m :: st) (jm_H m I A L rest z) = jv_ev call 24 94 [l0, l1, l2] (.ref (m + 20) :: st) (jm_H m I A L rest z) := je_get D24_91 rfl (by decide) jm_g24
theorem D24_94 : decode (jt_code 24) 94 = .ok (.iload_n 2, 1) := by decide +kernel
theorem E24_94 {call : jv_F} {l0 l1 : Option Value} {x : Int32} {st : List Value} {h : jv_H} : jv_ev call 24 94 [l0, l1, some (.int x)] st h = jv_ev call 24 95 [l0, l1, some (.int x)] (.int x :: st) h := je_iload_n D24_94 rfl rfl
theorem D24_95 : decode (jt_code 24) 95 = .ok (.iaload, 1) := by decide +kernel
theorem E24_95 {call : jv_F} {l0 l1 l2 : Option Value} {i : Nat} {st : List Value} {m : Nat} {I : Nat → Int32} {A : Nat → Nat → Int32} {L : Nat → Nat → Int64} {rest : Nat → Option jv_C} {z : Nat × Nat} (hi : i < 17) : jv_ev call 24 95 [l0, l1, l2] (.int (nI i) :: .ref (m + 20) :: st) (jm_H m I A L rest z) = jv_ev call 24 96 [l0, l1, l2] (.int (A 24 i) :: st) (jm_H m I A L rest z) := je_iald D24_95 rfl (jm_l24 hi)
theorem D24_96 : decode (jt_code 24) 96 = .ok (.isub, 1) := by decide +kernel
theorem E24_96 {call : jv_F} {l0 l1 l2 : Option Value} {x y : Int32} {st : List Value} {h : jv_H} : jv_ev call 24 96 [l0, l1, l2] (.int y :: .int x :: st) h = jv_ev call 24 97 [l0, l1, l2] (.int (x - y) :: st) h := je_b2 (f := fun x y => x - y) D24_96 rfl (fun _ => rfl)
theorem D24_97 : decode (jt_code 24) 97 = .ok (.aload_n 0, 1) := by decide +kernel
theorem E24_97 {call : jv_F} {l1 l2 : Option Value} {a : Nat} {st : List Value} {h : jv_H} : jv_ev call 24 97 [some (.ref a), l1, l2] st h = jv_ev call 24 98 [some (.ref a), l1, l2] (.ref a :: st) h := je_aload_n (r := some a) D24_97 rfl rfl
theorem D24_98 : decode (jt_code 24) 98 = .ok (.getfield 76, 3) := by decide +kernel
theorem E24_98 {call : jv_F} {l0 l1 l2 : Option Value}  {st : List Value} {m : Nat} {I : Nat → Int32} {A : Nat → Nat → Int32} {L : Nat → Nat → Int64} {rest : Nat → Option jv_C} {z : Nat × Nat} : jv_ev call 24 98 [l0, l1, l2] (.ref m :: st) (jm_H m I A L rest z) = jv_ev call 24 101 [l0, l1, l2] (.ref (m + 21) :: st) (jm_H m I A L rest z) := je_get D24_98 rfl (by decide) jm_g25
theorem D24_101 : decode (jt_code 24) 101 = .ok (.iload_n 1, 1) := by decide +kernel
theorem E24_101 {call : jv_F} {l0 l2 : Option Value} {x : Int32} {st : List Value} {h : jv_H} : jv_ev call 24 101 [l0, some (.int x), l2] st h = jv_ev call 24 102 [l0, some (.int x), l2] (.int x :: st) h := je_iload_n D24_101 rfl rfl
theorem D24_102 : decode (jt_code 24) 102 = .ok (.iaload, 1) := by decide +kernel
theorem E24_102 {call : jv_F} {l0 l1 l2 : Option Value} {i : Nat} {st : List Value} {m : Nat} {I : Nat → Int32} {A : Nat → Nat → Int32} {L : Nat → Nat → Int64} {rest : Nat → Option jv_C} {z : Nat × Nat} (hi : i < 17) : jv_ev call 24 102 [l0, l1, l2] (.int (nI i) :: .ref (m + 21) :: st) (jm_H m I A L rest z) = jv_ev call 24 103 [l0, l1, l2] (.int (A 25 i) :: st) (jm_H m I A L rest z) := je_iald D24_102 rfl (jm_l25 hi)
theorem D24_103 : decode (jt_code 24) 103 = .ok (.aload_n 0, 1) := by decide +kernel
theorem E24_103 {call : jv_F} {l1 l2 : Option Value} {a : Nat} {st : List Value} {h : jv_H} : jv_ev call 24 103 [some (.ref a), l1, l2] st h = jv_ev call 24 104 [some (.ref a), l1, l2] (.ref a :: st) h := je_aload_n (r := some a) D24_103 rfl rfl
theorem D24_104 : decode (jt_code 24) 104 = .ok (.getfield 73, 3) := by decide +kernel
theorem E24_104 {call : jv_F} {l0 l1 l2 : Option Value}  {st : List Value} {m : Nat} {I : Nat → Int32} {A : Nat → Nat → Int32} {L : Nat → Nat → Int64} {rest : Nat → Option jv_C} {z : Nat × Nat} : jv_ev call 24 104 [l0, l1, l2] (.ref m :: st) (jm_H m I A L rest z) = jv_ev call 24 107 [l0, l1, l2] (.ref (m + 20) :: st) (jm_H m I A L rest z) := je_get D24_104 rfl (by decide) jm_g24
theorem D24_107 : decode (jt_code 24) 107 = .ok (.iload_n 1, 1) := by decide +kernel
theorem E24_107 {call : jv_F} {l0 l2 : Option Value} {x : Int32} {st : List Value} {h : jv_H} : jv_ev call 24 107 [l0, some (.int x), l2] st h = jv_ev call 24 108 [l0, some (.int x), l2] (.int x :: st) h := je_iload_n D24_107 rfl rfl
theorem D24_108 : decode (jt_code 24) 108 = .ok (.iaload, 1) := by decide +kernel
theorem E24_108 {call : jv_F} {l0 l1 l2 : Option Value} {i : Nat} {st : List Value} {m : Nat} {I : Nat → Int32} {A : Nat → Nat → Int32} {L : Nat → Nat → Int64} {rest : Nat → Option jv_C} {z : Nat × Nat} (hi : i < 17) : jv_ev call 24 108 [l0, l1, l2] (.int (nI i) :: .ref (m + 20) :: st) (jm_H m I A L rest z) = jv_ev call 24 109 [l0, l1, l2] (.int (A 24 i) :: st) (jm_H m I A L rest z) := je_iald D24_108 rfl (jm_l24 hi)
theorem D24_109 : decode (jt_code 24) 109 = .ok (.isub, 1) := by decide +kernel
theorem E24_109 {call : jv_F} {l0 l1 l2 : Option Value} {x y : Int32} {st : List Value} {h : jv_H} : jv_ev call 24 109 [l0, l1, l2] (.int y :: .int x :: st) h = jv_ev call 24 110 [l0, l1, l2] (.int (x - y) :: st) h := je_b2 (f := fun x y => x - y) D24_109 rfl (fun _ => rfl)
theorem D24_110 : decode (jt_code 24) 110 = .ok (.if_icmp .le 5, 3) := by decide +kernel
theorem E24_110 {call : jv_F} {l0 l1 l2 : Option Value} {x y : Int32} {st : List Value} {h : jv_H} : jv_ev call 24 110 [l0, l1, l2] (.int y :: .int x :: st) h = if x ≤ y then jv_ev call 24 115 [l0, l1, l2] st h else jv_ev call 24 113 [l0, l1, l2] st h := je_icmp D24_110 (by decide) rfl rfl
theorem D24_113 : decode (jt_code 24) 113 = .ok (.iload_n 2, 1) := by decide +kernel
theorem E24_113 {call : jv_F} {l0 l1 : Option Value} {x : Int32} {st : List Value} {h : jv_H} : jv_ev call 24 113 [l0, l1, some (.int x)] st h = jv_ev call 24 114 [l0, l1, some (.int x)] (.int x :: st) h := je_iload_n D24_113 rfl rfl
theorem D24_114 : decode (jt_code 24) 114 = .ok (.istore_n 1, 1) := by decide +kernel
theorem E24_114 {call : jv_F} {l0 l1 l2 : Option Value} {x : Int32} {st : List Value} {h : jv_H} (hk : ¬ jv_is2 (some l0) = true) : jv_ev call 24 114 [l0, l1, l2] (.int x :: st) h = jv_ev call 24 115 [l0, some (.int x), l2] st h := je_istore_n D24_114 rfl (Nat.le_of_ble_eq_true rfl) (by show jv_st1 _ 1 _ = _; simp only [jv_st1, jv_kill, List.getElem?_cons_succ, List.getElem?_cons_zero, hk, if_false]; rfl)
theorem D24_115 : decode (jt_code 24) 115 = .ok (.iinc 2 1, 3) := by decide +kernel
theorem E24_115 {call : jv_F} {l0 l1 : Option Value} {x : Int32} {st : List Value} {h : jv_H} (hk : ¬ jv_is2 (some l1) = true) : jv_ev call 24 115 [l0, l1, some (.int x)] st h = jv_ev call 24 118 [l0, l1, some (.int (x + (nI 1)))] st h := je_iinc D24_115 rfl rfl (v := x + (nI 1)) (by rfl) (by show jv_st1 _ 2 _ = _; simp only [jv_st1, jv_kill, List.getElem?_cons_succ, List.getElem?_cons_zero, hk, if_false]; rfl)
theorem D24_118 : decode (jt_code 24) 118 = .ok (.goto (-63), 3) := by decide +kernel
theorem E24_118 {call : jv_F} {l0 l1 l2 : Option Value}  {st : List Value} {h : jv_H} : jv_ev call 24 118 [l0, l1, l2] st h = jv_ev call 24 55 [l0, l1, l2] st h := je_goto D24_118 (by decide)
theorem D24_121 : decode (jt_code 24) 121 = .ok (.iload_n 1, 1) := by decide +kernel
theorem E24_121 {call : jv_F} {l0 l2 : Option Value} {x : Int32} {st : List Value} {h : jv_H} : jv_ev call 24 121 [l0, some (.int x), l2] st h = jv_ev call 24 122 [l0, some (.int x), l2] (.int x :: st) h := je_iload_n D24_121 rfl rfl
theorem D24_122 : decode (jt_code 24) 122 = .ok (.ifCond .ge 48, 3) := by decide +kernel
theorem E24_122 {call : jv_F} {l0 l1 l2 : Option Value} {x : Int32} {st : List Value} {h : jv_H} : jv_ev call 24 122 [l0, l1, l2] (.int x :: st) h = if 0 ≤ x then jv_ev call 24 170 [l0, l1, l2] st h else jv_ev call 24 125 [l0, l1, l2] st h := je_ifc D24_122 (by decide) rfl rfl
theorem D24_125 : decode (jt_code 24) 125 = .ok (.iconst 0, 1) := by decide +kernel
theorem E24_125 {call : jv_F} {l0 l1 l2 : Option Value}  {st : List Value} {h : jv_H} : jv_ev call 24 125 [l0, l1, l2] st h = jv_ev call 24 126 [l0, l1, l2] (.int (nI 0) :: st) h := je_iconst D24_125 rfl (by decide)
theorem D24_126 : decode (jt_code 24) 126 = .ok (.istore_n 2, 1) := by decide +kernel
theorem E24_126 {call : jv_F} {l0 l1 l2 : Option Value} {x : Int32} {st : List Value} {h : jv_H} (hk : ¬ jv_is2 (some l1) = true) : jv_ev call 24 126 [l0, l1, l2] (.int x :: st) h = jv_ev call 24 127 [l0, l1, some (.int x)] st h := je_istore_n D24_126 rfl (Nat.le_of_ble_eq_true rfl) (by show jv_st1 _ 2 _ = _; simp only [jv_st1, jv_kill, List.getElem?_cons_succ, List.getElem?_cons_zero, hk, if_false]; rfl)
theorem D24_127 : decode (jt_code 24) 127 = .ok (.iload_n 2, 1) := by decide +kernel
theorem E24_127 {call : jv_F} {l0 l1 : Option Value} {x : Int32} {st : List Value} {h : jv_H} : jv_ev call 24 127 [l0, l1, some (.int x)] st h = jv_ev call 24 128 [l0, l1, some (.int x)] (.int x :: st) h := je_iload_n D24_127 rfl rfl
theorem D24_128 : decode (jt_code 24) 128 = .ok (.aload_n 0, 1) := by decide +kernel
theorem E24_128 {call : jv_F} {l1 l2 : Option Value} {a : Nat} {st : List Value} {h : jv_H} : jv_ev call 24 128 [some (.ref a), l1, l2] st h = jv_ev call 24 129 [some (.ref a), l1, l2] (.ref a :: st) h := je_aload_n (r := some a) D24_128 rfl rfl
theorem D24_129 : decode (jt_code 24) 129 = .ok (.getfield 7, 3) := by decide +kernel
theorem E24_129 {call : jv_F} {l0 l1 l2 : Option Value}  {st : List Value} {m : Nat} {I : Nat → Int32} {A : Nat → Nat → Int32} {L : Nat → Nat → Int64} {rest : Nat → Option jv_C} {z : Nat × Nat} : jv_ev call 24 129 [l0, l1, l2] (.ref m :: st) (jm_H m I A L rest z) = jv_ev call 24 132 [l0, l1, l2] (.int (I 0) :: st) (jm_H m I A L rest z) := je_get D24_129 rfl (by decide) jm_g0
theorem D24_132 : decode (jt_code 24) 132 = .ok (.if_icmp .ge 38, 3) := by decide +kernel
theorem E24_132 {call : jv_F} {l0 l1 l2 : Option Value} {x y : Int32} {st : List Value} {h : jv_H} : jv_ev call 24 132 [l0, l1, l2] (.int y :: .int x :: st) h = if y ≤ x then jv_ev call 24 170 [l0, l1, l2] st h else jv_ev call 24 135 [l0, l1, l2] st h := je_icmp D24_132 (by decide) rfl rfl
theorem D24_135 : decode (jt_code 24) 135 = .ok (.aload_n 0, 1) := by decide +kernel
theorem E24_135 {call : jv_F} {l1 l2 : Option Value} {a : Nat} {st : List Value} {h : jv_H} : jv_ev call 24 135 [some (.ref a), l1, l2] st h = jv_ev call 24 136 [some (.ref a), l1, l2] (.ref a :: st) h := je_aload_n (r := some a) D24_135 rfl rfl
theorem D24_136 : decode (jt_code 24) 136 = .ok (.iload_n 2, 1) := by decide +kernel
theorem E24_136 {call : jv_F} {l0 l1 : Option Value} {x : Int32} {st : List Value} {h : jv_H} : jv_ev call 24 136 [l0, l1, some (.int x)] st h = jv_ev call 24 137 [l0, l1, some (.int x)] (.int x :: st) h := je_iload_n D24_136 rfl rfl
theorem D24_137 : decode (jt_code 24) 137 = .ok (.invokevirtual 194, 3) := by decide +kernel
theorem E24_137 {call : jv_F} {l0 l1 l2 : Option Value} {v0 : Value}  {st : List Value} {m : Nat} {I : Nat → Int32} {A : Nat → Nat → Int32} {L : Nat → Nat → Int64} {rest : Nat → Option jv_C} {z : Nat × Nat} (hw : jv_wide st = true) (hc : (call 23 [.ref m, v0] (jm_H m I A L rest z)).isSome = true) : jv_ev call 24 137 [l0, l1, l2] (v0 :: .ref m :: st) (jm_H m I A L rest z) = jv_ev call 24 140 [l0, l1, l2] ((((call 23 [.ref m, v0] (jm_H m I A L rest z)).getD (none, (jm_H m I A L rest z))).1).toList ++ st) ((call 23 [.ref m, v0] (jm_H m I A L rest z)).getD (none, (jm_H m I A L rest z))).2 := by
  obtain ⟨⟨r, h'⟩, hv⟩ := Option.isSome_iff_exists.mp hc
  rw [hv]
  exact je_virt (y := 23) (as := [v0]) D24_137 rfl (by decide) (by decide) rfl jm_cl hw hv
theorem D24_140 : decode (jt_code 24) 140 = .ok (.ifCond .eq 24, 3) := by decide +kernel
theorem E24_140 {call : jv_F} {l0 l1 l2 : Option Value} {x : Int32} {st : List Value} {h : jv_H} : jv_ev call 24 140 [l0, l1, l2] (.int x :: st) h = if x = 0 then jv_ev call 24 164 [l0, l1, l2] st h else jv_ev call 24 143 [l0, l1, l2] st h := je_ifc D24_140 (by decide) rfl rfl
theorem D24_143 : decode (jt_code 24) 143 = .ok (.iload_n 1, 1) := by decide +kernel
theorem E24_143 {call : jv_F} {l0 l2 : Option Value} {x : Int32} {st : List Value} {h : jv_H} : jv_ev call 24 143 [l0, some (.int x), l2] st h = jv_ev call 24 144 [l0, some (.int x), l2] (.int x :: st) h := je_iload_n D24_143 rfl rfl
theorem D24_144 : decode (jt_code 24) 144 = .ok (.ifCond .lt 18, 3) := by decide +kernel
theorem E24_144 {call : jv_F} {l0 l1 l2 : Option Value} {x : Int32} {st : List Value} {h : jv_H} : jv_ev call 24 144 [l0, l1, l2] (.int x :: st) h = if x < 0 then jv_ev call 24 162 [l0, l1, l2] st h else jv_ev call 24 147 [l0, l1, l2] st h := je_ifc D24_144 (by decide) rfl rfl
theorem D24_147 : decode (jt_code 24) 147 = .ok (.aload_n 0, 1) := by decide +kernel
theorem E24_147 {call : jv_F} {l1 l2 : Option Value} {a : Nat} {st : List Value} {h : jv_H} : jv_ev call 24 147 [some (.ref a), l1, l2] st h = jv_ev call 24 148 [some (.ref a), l1, l2] (.ref a :: st) h := je_aload_n (r := some a) D24_147 rfl rfl
theorem D24_148 : decode (jt_code 24) 148 = .ok (.getfield 76, 3) := by decide +kernel
theorem E24_148 {call : jv_F} {l0 l1 l2 : Option Value}  {st : List Value} {m : Nat} {I : Nat → Int32} {A : Nat → Nat → Int32} {L : Nat → Nat → Int64} {rest : Nat → Option jv_C} {z : Nat × Nat} : jv_ev call 24 148 [l0, l1, l2] (.ref m :: st) (jm_H m I A L rest z) = jv_ev call 24 151 [l0, l1, l2] (.ref (m + 21) :: st) (jm_H m I A L rest z) := je_get D24_148 rfl (by decide) jm_g25
theorem D24_151 : decode (jt_code 24) 151 = .ok (.iload_n 2, 1) := by decide +kernel
theorem E24_151 {call : jv_F} {l0 l1 : Option Value} {x : Int32} {st : List Value} {h : jv_H} : jv_ev call 24 151 [l0, l1, some (.int x)] st h = jv_ev call 24 152 [l0, l1, some (.int x)] (.int x :: st) h := je_iload_n D24_151 rfl rfl
theorem D24_152 : decode (jt_code 24) 152 = .ok (.iaload, 1) := by decide +kernel
theorem E24_152 {call : jv_F} {l0 l1 l2 : Option Value} {i : Nat} {st : List Value} {m : Nat} {I : Nat → Int32} {A : Nat → Nat → Int32} {L : Nat → Nat → Int64} {rest : Nat → Option jv_C} {z : Nat × Nat} (hi : i < 17) : jv_ev call 24 152 [l0, l1, l2] (.int (nI i) :: .ref (m + 21) :: st) (jm_H m I A L rest z) = jv_ev call 24 153 [l0, l1, l2] (.int (A 25 i) :: st) (jm_H m I A L rest z) := je_iald D24_152 rfl (jm_l25 hi)
theorem D24_153 : decode (jt_code 24) 153 = .ok (.aload_n 0, 1) := by decide +kernel
theorem E24_153 {call : jv_F} {l1 l2 : Option Value} {a : Nat} {st : List Value} {h : jv_H} : jv_ev call 24 153 [some (.ref a), l1, l2] st h = jv_ev call 24 154 [some (.ref a), l1, l2] (.ref a :: st) h := je_aload_n (r := some a) D24_153 rfl rfl
theorem D24_154 : decode (jt_code 24) 154 = .ok (.getfield 76, 3) := by decide +kernel
theorem E24_154 {call : jv_F} {l0 l1 l2 : Option Value}  {st : List Value} {m : Nat} {I : Nat → Int32} {A : Nat → Nat → Int32} {L : Nat → Nat → Int64} {rest : Nat → Option jv_C} {z : Nat × Nat} : jv_ev call 24 154 [l0, l1, l2] (.ref m :: st) (jm_H m I A L rest z) = jv_ev call 24 157 [l0, l1, l2] (.ref (m + 21) :: st) (jm_H m I A L rest z) := je_get D24_154 rfl (by decide) jm_g25
theorem D24_157 : decode (jt_code 24) 157 = .ok (.iload_n 1, 1) := by decide +kernel
theorem E24_157 {call : jv_F} {l0 l2 : Option Value} {x : Int32} {st : List Value} {h : jv_H} : jv_ev call 24 157 [l0, some (.int x), l2] st h = jv_ev call 24 158 [l0, some (.int x), l2] (.int x :: st) h := je_iload_n D24_157 rfl rfl
theorem D24_158 : decode (jt_code 24) 158 = .ok (.iaload, 1) := by decide +kernel
theorem E24_158 {call : jv_F} {l0 l1 l2 : Option Value} {i : Nat} {st : List Value} {m : Nat} {I : Nat → Int32} {A : Nat → Nat → Int32} {L : Nat → Nat → Int64} {rest : Nat → Option jv_C} {z : Nat × Nat} (hi : i < 17) : jv_ev call 24 158 [l0, l1, l2] (.int (nI i) :: .ref (m + 21) :: st) (jm_H m I A L rest z) = jv_ev call 24 159 [l0, l1, l2] (.int (A 25 i) :: st) (jm_H m I A L rest z) := je_iald D24_158 rfl (jm_l25 hi)
theorem D24_159 : decode (jt_code 24) 159 = .ok (.if_icmp .le 5, 3) := by decide +kernel
theorem E24_159 {call : jv_F} {l0 l1 l2 : Option Value} {x y : Int32} {st : List Value} {h : jv_H} : jv_ev call 24 159 [l0, l1, l2] (.int y :: .int x :: st) h = if x ≤ y then jv_ev call 24 164 [l0, l1, l2] st h else jv_ev call 24 162 [l0, l1, l2] st h := je_icmp D24_159 (by decide) rfl rfl
theorem D24_162 : decode (jt_code 24) 162 = .ok (.iload_n 2, 1) := by decide +kernel
theorem E24_162 {call : jv_F} {l0 l1 : Option Value} {x : Int32} {st : List Value} {h : jv_H} : jv_ev call 24 162 [l0, l1, some (.int x)] st h = jv_ev call 24 163 [l0, l1, some (.int x)] (.int x :: st) h := je_iload_n D24_162 rfl rfl
theorem D24_163 : decode (jt_code 24) 163 = .ok (.istore_n 1, 1) := by decide +kernel
theorem E24_163 {call : jv_F} {l0 l1 l2 : Option Value} {x : Int32} {st : List Value} {h : jv_H} (hk : ¬ jv_is2 (some l0) = true) : jv_ev call 24 163 [l0, l1, l2] (.int x :: st) h = jv_ev call 24 164 [l0, some (.int x), l2] st h := je_istore_n D24_163 rfl (Nat.le_of_ble_eq_true rfl) (by show jv_st1 _ 1 _ = _; simp only [jv_st1, jv_kill, List.getElem?_cons_succ, List.getElem?_cons_zero, hk, if_false]; rfl)
theorem D24_164 : decode (jt_code 24) 164 = .ok (.iinc 2 1, 3) := by decide +kernel
theorem E24_164 {call : jv_F} {l0 l1 : Option Value} {x : Int32} {st : List Value} {h : jv_H} (hk : ¬ jv_is2 (some l1) = true) : jv_ev call 24 164 [l0, l1, some (.int x)] st h = jv_ev call 24 167 [l0, l1, some (.int (x + (nI 1)))] st h := je_iinc D24_164 rfl rfl (v := x + (nI 1)) (by rfl) (by show jv_st1 _ 2 _ = _; simp only [jv_st1, jv_kill, List.getElem?_cons_succ, List.getElem?_cons_zero, hk, if_false]; rfl)
theorem D24_167 : decode (jt_code 24) 167 = .ok (.goto (-40), 3) := by decide +kernel
theorem E24_167 {call : jv_F} {l0 l1 l2 : Option Value}  {st : List Value} {h : jv_H} : jv_ev call 24 167 [l0, l1, l2] st h = jv_ev call 24 127 [l0, l1, l2] st h := je_goto D24_167 (by decide)
theorem D24_170 : decode (jt_code 24) 170 = .ok (.iload_n 1, 1) := by decide +kernel
theorem E24_170 {call : jv_F} {l0 l2 : Option Value} {x : Int32} {st : List Value} {h : jv_H} : jv_ev call 24 170 [l0, some (.int x), l2] st h = jv_ev call 24 171 [l0, some (.int x), l2] (.int x :: st) h := je_iload_n D24_170 rfl rfl
theorem D24_171 : decode (jt_code 24) 171 = .ok (.ifCond .ge 4, 3) := by decide +kernel
theorem E24_171 {call : jv_F} {l0 l1 l2 : Option Value} {x : Int32} {st : List Value} {h : jv_H} : jv_ev call 24 171 [l0, l1, l2] (.int x :: st) h = if 0 ≤ x then jv_ev call 24 175 [l0, l1, l2] st h else jv_ev call 24 174 [l0, l1, l2] st h := je_ifc D24_171 (by decide) rfl rfl
theorem D24_174 : decode (jt_code 24) 174 = .ok (.return_, 1) := by decide +kernel
theorem E24_174 {call : jv_F} {l0 l1 l2 : Option Value}  {h : jv_H} : jv_ev call 24 174 [l0, l1, l2] [] h = some (none, h) := je_ret D24_174 rfl
theorem D24_175 : decode (jt_code 24) 175 = .ok (.aload_n 0, 1) := by decide +kernel
theorem E24_175 {call : jv_F} {l1 l2 : Option Value} {a : Nat} {st : List Value} {h : jv_H} : jv_ev call 24 175 [some (.ref a), l1, l2] st h = jv_ev call 24 176 [some (.ref a), l1, l2] (.ref a :: st) h := je_aload_n (r := some a) D24_175 rfl rfl
theorem D24_176 : decode (jt_code 24) 176 = .ok (.getfield 67, 3) := by decide +kernel
theorem E24_176 {call : jv_F} {l0 l1 l2 : Option Value}  {st : List Value} {m : Nat} {I : Nat → Int32} {A : Nat → Nat → Int32} {L : Nat → Nat → Int64} {rest : Nat → Option jv_C} {z : Nat × Nat} : jv_ev call 24 176 [l0, l1, l2] (.ref m :: st) (jm_H m I A L rest z) = jv_ev call 24 179 [l0, l1, l2] (.ref (m + 18) :: st) (jm_H m I A L rest z) := je_get D24_176 rfl (by decide) jm_g21
theorem D24_179 : decode (jt_code 24) 179 = .ok (.aload_n 0, 1) := by decide +kernel
theorem E24_179 {call : jv_F} {l1 l2 : Option Value} {a : Nat} {st : List Value} {h : jv_H} : jv_ev call 24 179 [some (.ref a), l1, l2] st h = jv_ev call 24 180 [some (.ref a), l1, l2] (.ref a :: st) h := je_aload_n (r := some a) D24_179 rfl rfl
theorem D24_180 : decode (jt_code 24) 180 = .ok (.getfield 70, 3) := by decide +kernel
theorem E24_180 {call : jv_F} {l0 l1 l2 : Option Value}  {st : List Value} {m : Nat} {I : Nat → Int32} {A : Nat → Nat → Int32} {L : Nat → Nat → Int64} {rest : Nat → Option jv_C} {z : Nat × Nat} : jv_ev call 24 180 [l0, l1, l2] (.ref m :: st) (jm_H m I A L rest z) = jv_ev call 24 183 [l0, l1, l2] (.ref (m + 19) :: st) (jm_H m I A L rest z) := je_get D24_180 rfl (by decide) jm_g23
theorem D24_183 : decode (jt_code 24) 183 = .ok (.iload_n 1, 1) := by decide +kernel
theorem E24_183 {call : jv_F} {l0 l2 : Option Value} {x : Int32} {st : List Value} {h : jv_H} : jv_ev call 24 183 [l0, some (.int x), l2] st h = jv_ev call 24 184 [l0, some (.int x), l2] (.int x :: st) h := je_iload_n D24_183 rfl rfl
theorem D24_184 : decode (jt_code 24) 184 = .ok (.iaload, 1) := by decide +kernel
theorem E24_184 {call : jv_F} {l0 l1 l2 : Option Value} {i : Nat} {st : List Value} {m : Nat} {I : Nat → Int32} {A : Nat → Nat → Int32} {L : Nat → Nat → Int64} {rest : Nat → Option jv_C} {z : Nat × Nat} (hi : i < 17) : jv_ev call 24 184 [l0, l1, l2] (.int (nI i) :: .ref (m + 19) :: st) (jm_H m I A L rest z) = jv_ev call 24 185 [l0, l1, l2] (.int (A 23 i) :: st) (jm_H m I A L rest z) := je_iald D24_184 rfl (jm_l23 hi)
theorem D24_185 : decode (jt_code 24) 185 = .ok (.aload_n 0, 1) := by decide +kernel
theorem E24_185 {call : jv_F} {l1 l2 : Option Value} {a : Nat} {st : List Value} {h : jv_H} : jv_ev call 24 185 [some (.ref a), l1, l2] st h = jv_ev call 24 186 [some (.ref a), l1, l2] (.ref a :: st) h := je_aload_n (r := some a) D24_185 rfl rfl
theorem D24_186 : decode (jt_code 24) 186 = .ok (.getfield 188, 3) := by decide +kernel
theorem E24_186 {call : jv_F} {l0 l1 l2 : Option Value}  {st : List Value} {m : Nat} {I : Nat → Int32} {A : Nat → Nat → Int32} {L : Nat → Nat → Int64} {rest : Nat → Option jv_C} {z : Nat × Nat} : jv_ev call 24 186 [l0, l1, l2] (.ref m :: st) (jm_H m I A L rest z) = jv_ev call 24 189 [l0, l1, l2] (.int (I 42) :: st) (jm_H m I A L rest z) := je_get D24_186 rfl (by decide) jm_g42
theorem D24_189 : decode (jt_code 24) 189 = .ok (.iastore, 1) := by decide +kernel
theorem E24_189 {call : jv_F} {l0 l1 l2 : Option Value} {i : Nat} {v : Int32} {st : List Value} {m : Nat} {I : Nat → Int32} {A : Nat → Nat → Int32} {L : Nat → Nat → Int64} {rest : Nat → Option jv_C} {z : Nat × Nat} (hi : i < 768) : jv_ev call 24 189 [l0, l1, l2] (.int v :: .int (nI i) :: .ref (m + 18) :: st) (jm_H m I A L rest z) = jv_ev call 24 190 [l0, l1, l2] st (jm_H m I (va_up A 21 (upd (A 21) i v)) L rest z) := je_iast D24_189 rfl (jm_s21 hi)
theorem D24_190 : decode (jt_code 24) 190 = .ok (.aload_n 0, 1) := by decide +kernel
theorem E24_190 {call : jv_F} {l1 l2 : Option Value} {a : Nat} {st : List Value} {h : jv_H} : jv_ev call 24 190 [some (.ref a), l1, l2] st h = jv_ev call 24 191 [some (.ref a), l1, l2] (.ref a :: st) h := je_aload_n (r := some a) D24_190 rfl rfl
theorem D24_191 : decode (jt_code 24) 191 = .ok (.iconst 2, 1) := by decide +kernel
theorem E24_191 {call : jv_F} {l0 l1 l2 : Option Value}  {st : List Value} {h : jv_H} : jv_ev call 24 191 [l0, l1, l2] st h = jv_ev call 24 192 [l0, l1, l2] (.int (nI 2) :: st) h := je_iconst D24_191 rfl (by decide)
theorem D24_192 : decode (jt_code 24) 192 = .ok (.iload_n 1, 1) := by decide +kernel
theorem E24_192 {call : jv_F} {l0 l2 : Option Value} {x : Int32} {st : List Value} {h : jv_H} : jv_ev call 24 192 [l0, some (.int x), l2] st h = jv_ev call 24 193 [l0, some (.int x), l2] (.int x :: st) h := je_iload_n D24_192 rfl rfl
theorem D24_193 : decode (jt_code 24) 193 = .ok (.invokevirtual 197, 3) := by decide +kernel
theorem E24_193 {call : jv_F} {l0 l1 l2 : Option Value} {v0 v1 : Value}  {st : List Value} {m : Nat} {I : Nat → Int32} {A : Nat → Nat → Int32} {L : Nat → Nat → Int64} {rest : Nat → Option jv_C} {z : Nat × Nat} (hw : jv_wide st = true) (hc : (call 25 [.ref m, v0, v1] (jm_H m I A L rest z)).isSome = true) : jv_ev call 24 193 [l0, l1, l2] (v1 :: v0 :: .ref m :: st) (jm_H m I A L rest z) = jv_ev call 24 196 [l0, l1, l2] ((((call 25 [.ref m, v0, v1] (jm_H m I A L rest z)).getD (none, (jm_H m I A L rest z))).1).toList ++ st) ((call 25 [.ref m, v0, v1] (jm_H m I A L rest z)).getD (none, (jm_H m I A L rest z))).2 := by
  obtain ⟨⟨r, h'⟩, hv⟩ := Option.isSome_iff_exists.mp hc
  rw [hv]
  exact je_virt (y := 25) (as := [v0, v1]) D24_193 rfl (by decide) (by decide) rfl jm_cl hw hv
theorem D24_196 : decode (jt_code 24) 196 = .ok (.return_, 1) := by decide +kernel
theorem E24_196 {call : jv_F} {l0 l1 l2 : Option Value}  {h : jv_H} : jv_ev call 24 196 [l0, l1, l2] [] h = some (none, h) := je_ret D24_196 rfl
/-! method 25: DrumMachineModel.ask -/
theorem N25 {d : Nat} {b : Nat} {a0 : Int32} {a1 : Int32} {h : jv_H} : jv_run (d + 1) 25 [.ref b, .int a0, .int a1] h = jv_ev (jv_run d) 25 0 [some (.ref b), some (.int a0), some (.int a1)] [] h := jv_run_eq (Nat.le_of_ble_eq_true rfl) rfl
theorem D25_0 : decode (jt_code 25) 0 = .ok (.aload_n 0, 1) := by decide +kernel
theorem E25_0 {call : jv_F} {l1 l2 : Option Value} {a : Nat} {st : List Value} {h : jv_H} : jv_ev call 25 0 [some (.ref a), l1, l2] st h = jv_ev call 25 1 [some (.ref a), l1, l2] (.ref a :: st) h := je_aload_n (r := some a) D25_0 rfl rfl
theorem D25_1 : decode (jt_code 25) 1 = .ok (.getfield 79, 3) := by decide +kernel
theorem E25_1 {call : jv_F} {l0 l1 l2 : Option Value}  {st : List Value} {m : Nat} {I : Nat → Int32} {A : Nat → Nat → Int32} {L : Nat → Nat → Int64} {rest : Nat → Option jv_C} {z : Nat × Nat} : jv_ev call 25 1 [l0, l1, l2] (.ref m :: st) (jm_H m I A L rest z) = jv_ev call 25 4 [l0, l1, l2] (.ref (m + 22) :: st) (jm_H m I A L rest z) := je_get D25_1 rfl (by decide) jm_g26
theorem D25_4 : decode (jt_code 25) 4 = .ok (.iload_n 2, 1) := by decide +kernel
theorem E25_4 {call : jv_F} {l0 l1 : Option Value} {x : Int32} {st : List Value} {h : jv_H} : jv_ev call 25 4 [l0, l1, some (.int x)] st h = jv_ev call 25 5 [l0, l1, some (.int x)] (.int x :: st) h := je_iload_n D25_4 rfl rfl
theorem D25_5 : decode (jt_code 25) 5 = .ok (.iconst 1, 1) := by decide +kernel
theorem E25_5 {call : jv_F} {l0 l1 l2 : Option Value}  {st : List Value} {h : jv_H} : jv_ev call 25 5 [l0, l1, l2] st h = jv_ev call 25 6 [l0, l1, l2] (.int (nI 1) :: st) h := je_iconst D25_5 rfl (by decide)
theorem D25_6 : decode (jt_code 25) 6 = .ok (.bastore, 1) := by decide +kernel
theorem E25_6 {call : jv_F} {l0 l1 l2 : Option Value} {i : Nat} {v : Int32} {st : List Value} {m : Nat} {I : Nat → Int32} {A : Nat → Nat → Int32} {L : Nat → Nat → Int64} {rest : Nat → Option jv_C} {z : Nat × Nat} (hi : i < 17) (hv : narrow .boolean (.int v) = .int v) : jv_ev call 25 6 [l0, l1, l2] (.int v :: .int (nI i) :: .ref (m + 22) :: st) (jm_H m I A L rest z) = jv_ev call 25 7 [l0, l1, l2] st (jm_H m I (va_up A 26 (upd (A 26) i v)) L rest z) := je_bast D25_6 rfl (by rw [hv]; exact jm_s26 hi)
theorem D25_7 : decode (jt_code 25) 7 = .ok (.aload_n 0, 1) := by decide +kernel
theorem E25_7 {call : jv_F} {l1 l2 : Option Value} {a : Nat} {st : List Value} {h : jv_H} : jv_ev call 25 7 [some (.ref a), l1, l2] st h = jv_ev call 25 8 [some (.ref a), l1, l2] (.ref a :: st) h := je_aload_n (r := some a) D25_7 rfl rfl
theorem D25_8 : decode (jt_code 25) 8 = .ok (.getfield 88, 3) := by decide +kernel
theorem E25_8 {call : jv_F} {l0 l1 l2 : Option Value}  {st : List Value} {m : Nat} {I : Nat → Int32} {A : Nat → Nat → Int32} {L : Nat → Nat → Int64} {rest : Nat → Option jv_C} {z : Nat × Nat} : jv_ev call 25 8 [l0, l1, l2] (.ref m :: st) (jm_H m I A L rest z) = jv_ev call 25 11 [l0, l1, l2] (.ref (m + 25) :: st) (jm_H m I A L rest z) := je_get D25_8 rfl (by decide) jm_g29
theorem D25_11 : decode (jt_code 25) 11 = .ok (.aload_n 0, 1) := by decide +kernel
theorem E25_11 {call : jv_F} {l1 l2 : Option Value} {a : Nat} {st : List Value} {h : jv_H} : jv_ev call 25 11 [some (.ref a), l1, l2] st h = jv_ev call 25 12 [some (.ref a), l1, l2] (.ref a :: st) h := je_aload_n (r := some a) D25_11 rfl rfl
theorem D25_12 : decode (jt_code 25) 12 = .ok (.getfield 161, 3) := by decide +kernel
theorem E25_12 {call : jv_F} {l0 l1 l2 : Option Value}  {st : List Value} {m : Nat} {I : Nat → Int32} {A : Nat → Nat → Int32} {L : Nat → Nat → Int64} {rest : Nat → Option jv_C} {z : Nat × Nat} : jv_ev call 25 12 [l0, l1, l2] (.ref m :: st) (jm_H m I A L rest z) = jv_ev call 25 15 [l0, l1, l2] (.int (I 31) :: st) (jm_H m I A L rest z) := je_get D25_12 rfl (by decide) jm_g31
theorem D25_15 : decode (jt_code 25) 15 = .ok (.iload_n 1, 1) := by decide +kernel
theorem E25_15 {call : jv_F} {l0 l2 : Option Value} {x : Int32} {st : List Value} {h : jv_H} : jv_ev call 25 15 [l0, some (.int x), l2] st h = jv_ev call 25 16 [l0, some (.int x), l2] (.int x :: st) h := je_iload_n D25_15 rfl rfl
theorem D25_16 : decode (jt_code 25) 16 = .ok (.iastore, 1) := by decide +kernel
theorem E25_16 {call : jv_F} {l0 l1 l2 : Option Value} {i : Nat} {v : Int32} {st : List Value} {m : Nat} {I : Nat → Int32} {A : Nat → Nat → Int32} {L : Nat → Nat → Int64} {rest : Nat → Option jv_C} {z : Nat × Nat} (hi : i < 18) : jv_ev call 25 16 [l0, l1, l2] (.int v :: .int (nI i) :: .ref (m + 25) :: st) (jm_H m I A L rest z) = jv_ev call 25 17 [l0, l1, l2] st (jm_H m I (va_up A 29 (upd (A 29) i v)) L rest z) := je_iast D25_16 rfl (jm_s29 hi)
theorem D25_17 : decode (jt_code 25) 17 = .ok (.aload_n 0, 1) := by decide +kernel
theorem E25_17 {call : jv_F} {l1 l2 : Option Value} {a : Nat} {st : List Value} {h : jv_H} : jv_ev call 25 17 [some (.ref a), l1, l2] st h = jv_ev call 25 18 [some (.ref a), l1, l2] (.ref a :: st) h := je_aload_n (r := some a) D25_17 rfl rfl
theorem D25_18 : decode (jt_code 25) 18 = .ok (.getfield 91, 3) := by decide +kernel
theorem E25_18 {call : jv_F} {l0 l1 l2 : Option Value}  {st : List Value} {m : Nat} {I : Nat → Int32} {A : Nat → Nat → Int32} {L : Nat → Nat → Int64} {rest : Nat → Option jv_C} {z : Nat × Nat} : jv_ev call 25 18 [l0, l1, l2] (.ref m :: st) (jm_H m I A L rest z) = jv_ev call 25 21 [l0, l1, l2] (.ref (m + 26) :: st) (jm_H m I A L rest z) := je_get D25_18 rfl (by decide) jm_g30
theorem D25_21 : decode (jt_code 25) 21 = .ok (.aload_n 0, 1) := by decide +kernel
theorem E25_21 {call : jv_F} {l1 l2 : Option Value} {a : Nat} {st : List Value} {h : jv_H} : jv_ev call 25 21 [some (.ref a), l1, l2] st h = jv_ev call 25 22 [some (.ref a), l1, l2] (.ref a :: st) h := je_aload_n (r := some a) D25_21 rfl rfl
theorem D25_22 : decode (jt_code 25) 22 = .ok (.getfield 161, 3) := by decide +kernel
theorem E25_22 {call : jv_F} {l0 l1 l2 : Option Value}  {st : List Value} {m : Nat} {I : Nat → Int32} {A : Nat → Nat → Int32} {L : Nat → Nat → Int64} {rest : Nat → Option jv_C} {z : Nat × Nat} : jv_ev call 25 22 [l0, l1, l2] (.ref m :: st) (jm_H m I A L rest z) = jv_ev call 25 25 [l0, l1, l2] (.int (I 31) :: st) (jm_H m I A L rest z) := je_get D25_22 rfl (by decide) jm_g31
theorem D25_25 : decode (jt_code 25) 25 = .ok (.iload_n 2, 1) := by decide +kernel
theorem E25_25 {call : jv_F} {l0 l1 : Option Value} {x : Int32} {st : List Value} {h : jv_H} : jv_ev call 25 25 [l0, l1, some (.int x)] st h = jv_ev call 25 26 [l0, l1, some (.int x)] (.int x :: st) h := je_iload_n D25_25 rfl rfl
theorem D25_26 : decode (jt_code 25) 26 = .ok (.iastore, 1) := by decide +kernel
theorem E25_26 {call : jv_F} {l0 l1 l2 : Option Value} {i : Nat} {v : Int32} {st : List Value} {m : Nat} {I : Nat → Int32} {A : Nat → Nat → Int32} {L : Nat → Nat → Int64} {rest : Nat → Option jv_C} {z : Nat × Nat} (hi : i < 18) : jv_ev call 25 26 [l0, l1, l2] (.int v :: .int (nI i) :: .ref (m + 26) :: st) (jm_H m I A L rest z) = jv_ev call 25 27 [l0, l1, l2] st (jm_H m I (va_up A 30 (upd (A 30) i v)) L rest z) := je_iast D25_26 rfl (jm_s30 hi)
theorem D25_27 : decode (jt_code 25) 27 = .ok (.aload_n 0, 1) := by decide +kernel
theorem E25_27 {call : jv_F} {l1 l2 : Option Value} {a : Nat} {st : List Value} {h : jv_H} : jv_ev call 25 27 [some (.ref a), l1, l2] st h = jv_ev call 25 28 [some (.ref a), l1, l2] (.ref a :: st) h := je_aload_n (r := some a) D25_27 rfl rfl
theorem D25_28 : decode (jt_code 25) 28 = .ok (.dup, 1) := by decide +kernel
theorem E25_28 {call : jv_F} {l0 l1 l2 : Option Value} {a : Nat} {st : List Value} {h : jv_H} : jv_ev call 25 28 [l0, l1, l2] (.ref a :: st) h = jv_ev call 25 29 [l0, l1, l2] (.ref a :: .ref a :: st) h := je_dup D25_28 rfl rfl
theorem E25_28i {call : jv_F} {l0 l1 l2 : Option Value} {x : Int32} {st : List Value} {h : jv_H} : jv_ev call 25 28 [l0, l1, l2] (.int x :: st) h = jv_ev call 25 29 [l0, l1, l2] (.int x :: .int x :: st) h := je_dup D25_28 rfl rfl
theorem D25_29 : decode (jt_code 25) 29 = .ok (.getfield 161, 3) := by decide +kernel
theorem E25_29 {call : jv_F} {l0 l1 l2 : Option Value}  {st : List Value} {m : Nat} {I : Nat → Int32} {A : Nat → Nat → Int32} {L : Nat → Nat → Int64} {rest : Nat → Option jv_C} {z : Nat × Nat} : jv_ev call 25 29 [l0, l1, l2] (.ref m :: st) (jm_H m I A L rest z) = jv_ev call 25 32 [l0, l1, l2] (.int (I 31) :: st) (jm_H m I A L rest z) := je_get D25_29 rfl (by decide) jm_g31
theorem D25_32 : decode (jt_code 25) 32 = .ok (.iconst 1, 1) := by decide +kernel
theorem E25_32 {call : jv_F} {l0 l1 l2 : Option Value}  {st : List Value} {h : jv_H} : jv_ev call 25 32 [l0, l1, l2] st h = jv_ev call 25 33 [l0, l1, l2] (.int (nI 1) :: st) h := je_iconst D25_32 rfl (by decide)
theorem D25_33 : decode (jt_code 25) 33 = .ok (.iadd, 1) := by decide +kernel
theorem E25_33 {call : jv_F} {l0 l1 l2 : Option Value} {x y : Int32} {st : List Value} {h : jv_H} : jv_ev call 25 33 [l0, l1, l2] (.int y :: .int x :: st) h = jv_ev call 25 34 [l0, l1, l2] (.int (x + y) :: st) h := je_b2 (f := fun x y => x + y) D25_33 rfl (fun _ => rfl)
theorem D25_34 : decode (jt_code 25) 34 = .ok (.putfield 161, 3) := by decide +kernel
theorem E25_34 {call : jv_F} {l0 l1 l2 : Option Value} {v : Int32} {st : List Value} {m : Nat} {I : Nat → Int32} {A : Nat → Nat → Int32} {L : Nat → Nat → Int64} {rest : Nat → Option jv_C} {z : Nat × Nat} : jv_ev call 25 34 [l0, l1, l2] (.int v :: .ref m :: st) (jm_H m I A L rest z) = jv_ev call 25 37 [l0, l1, l2] st (jm_H m (upd I 31 v) A L rest z) := je_put D25_34 rfl (by decide) (by decide) jm_p31
theorem D25_37 : decode (jt_code 25) 37 = .ok (.return_, 1) := by decide +kernel
theorem E25_37 {call : jv_F} {l0 l1 l2 : Option Value}  {h : jv_H} : jv_ev call 25 37 [l0, l1, l2] [] h = some (none, h) := je_ret D25_37 rfl
/-! method 26: DrumMachineModel.drop -/
theorem N26 {d : Nat} {b : Nat} {a0 : Int32} {h : jv_H} : jv_run (d + 1) 26 [.ref b, .int a0] h = jv_ev (jv_run d) 26 0 [some (.ref b), some (.int a0), none] [] h := jv_run_eq (Nat.le_of_ble_eq_true rfl) rfl
theorem D26_0 : decode (jt_code 26) 0 = .ok (.aload_n 0, 1) := by decide +kernel
theorem E26_0 {call : jv_F} {l1 l2 : Option Value} {a : Nat} {st : List Value} {h : jv_H} : jv_ev call 26 0 [some (.ref a), l1, l2] st h = jv_ev call 26 1 [some (.ref a), l1, l2] (.ref a :: st) h := je_aload_n (r := some a) D26_0 rfl rfl
theorem D26_1 : decode (jt_code 26) 1 = .ok (.dup, 1) := by decide +kernel
theorem E26_1 {call : jv_F} {l0 l1 l2 : Option Value} {a : Nat} {st : List Value} {h : jv_H} : jv_ev call 26 1 [l0, l1, l2] (.ref a :: st) h = jv_ev call 26 2 [l0, l1, l2] (.ref a :: .ref a :: st) h := je_dup D26_1 rfl rfl
theorem E26_1i {call : jv_F} {l0 l1 l2 : Option Value} {x : Int32} {st : List Value} {h : jv_H} : jv_ev call 26 1 [l0, l1, l2] (.int x :: st) h = jv_ev call 26 2 [l0, l1, l2] (.int x :: .int x :: st) h := je_dup D26_1 rfl rfl
theorem D26_2 : decode (jt_code 26) 2 = .ok (.getfield 161, 3) := by decide +kernel
theorem E26_2 {call : jv_F} {l0 l1 l2 : Option Value}  {st : List Value} {m : Nat} {I : Nat → Int32} {A : Nat → Nat → Int32} {L : Nat → Nat → Int64} {rest : Nat → Option jv_C} {z : Nat × Nat} : jv_ev call 26 2 [l0, l1, l2] (.ref m :: st) (jm_H m I A L rest z) = jv_ev call 26 5 [l0, l1, l2] (.int (I 31) :: st) (jm_H m I A L rest z) := je_get D26_2 rfl (by decide) jm_g31
theorem D26_5 : decode (jt_code 26) 5 = .ok (.iconst 1, 1) := by decide +kernel
theorem E26_5 {call : jv_F} {l0 l1 l2 : Option Value}  {st : List Value} {h : jv_H} : jv_ev call 26 5 [l0, l1, l2] st h = jv_ev call 26 6 [l0, l1, l2] (.int (nI 1) :: st) h := je_iconst D26_5 rfl (by decide)
theorem D26_6 : decode (jt_code 26) 6 = .ok (.isub, 1) := by decide +kernel
theorem E26_6 {call : jv_F} {l0 l1 l2 : Option Value} {x y : Int32} {st : List Value} {h : jv_H} : jv_ev call 26 6 [l0, l1, l2] (.int y :: .int x :: st) h = jv_ev call 26 7 [l0, l1, l2] (.int (x - y) :: st) h := je_b2 (f := fun x y => x - y) D26_6 rfl (fun _ => rfl)
theorem D26_7 : decode (jt_code 26) 7 = .ok (.putfield 161, 3) := by decide +kernel
theorem E26_7 {call : jv_F} {l0 l1 l2 : Option Value} {v : Int32} {st : List Value} {m : Nat} {I : Nat → Int32} {A : Nat → Nat → Int32} {L : Nat → Nat → Int64} {rest : Nat → Option jv_C} {z : Nat × Nat} : jv_ev call 26 7 [l0, l1, l2] (.int v :: .ref m :: st) (jm_H m I A L rest z) = jv_ev call 26 10 [l0, l1, l2] st (jm_H m (upd I 31 v) A L rest z) := je_put D26_7 rfl (by decide) (by decide) jm_p31
theorem D26_10 : decode (jt_code 26) 10 = .ok (.iload_n 1, 1) := by decide +kernel
theorem E26_10 {call : jv_F} {l0 l2 : Option Value} {x : Int32} {st : List Value} {h : jv_H} : jv_ev call 26 10 [l0, some (.int x), l2] st h = jv_ev call 26 11 [l0, some (.int x), l2] (.int x :: st) h := je_iload_n D26_10 rfl rfl
theorem D26_11 : decode (jt_code 26) 11 = .ok (.istore_n 2, 1) := by decide +kernel
theorem E26_11 {call : jv_F} {l0 l1 l2 : Option Value} {x : Int32} {st : List Value} {h : jv_H} (hk : ¬ jv_is2 (some l1) = true) : jv_ev call 26 11 [l0, l1, l2] (.int x :: st) h = jv_ev call 26 12 [l0, l1, some (.int x)] st h := je_istore_n D26_11 rfl (Nat.le_of_ble_eq_true rfl) (by show jv_st1 _ 2 _ = _; simp only [jv_st1, jv_kill, List.getElem?_cons_succ, List.getElem?_cons_zero, hk, if_false]; rfl)
theorem D26_12 : decode (jt_code 26) 12 = .ok (.iload_n 2, 1) := by decide +kernel
theorem E26_12 {call : jv_F} {l0 l1 : Option Value} {x : Int32} {st : List Value} {h : jv_H} : jv_ev call 26 12 [l0, l1, some (.int x)] st h = jv_ev call 26 13 [l0, l1, some (.int x)] (.int x :: st) h := je_iload_n D26_12 rfl rfl
theorem D26_13 : decode (jt_code 26) 13 = .ok (.aload_n 0, 1) := by decide +kernel
theorem E26_13 {call : jv_F} {l1 l2 : Option Value} {a : Nat} {st : List Value} {h : jv_H} : jv_ev call 26 13 [some (.ref a), l1, l2] st h = jv_ev call 26 14 [some (.ref a), l1, l2] (.ref a :: st) h := je_aload_n (r := some a) D26_13 rfl rfl
theorem D26_14 : decode (jt_code 26) 14 = .ok (.getfield 161, 3) := by decide +kernel
theorem E26_14 {call : jv_F} {l0 l1 l2 : Option Value}  {st : List Value} {m : Nat} {I : Nat → Int32} {A : Nat → Nat → Int32} {L : Nat → Nat → Int64} {rest : Nat → Option jv_C} {z : Nat × Nat} : jv_ev call 26 14 [l0, l1, l2] (.ref m :: st) (jm_H m I A L rest z) = jv_ev call 26 17 [l0, l1, l2] (.int (I 31) :: st) (jm_H m I A L rest z) := je_get D26_14 rfl (by decide) jm_g31
theorem D26_17 : decode (jt_code 26) 17 = .ok (.if_icmp .ge 37, 3) := by decide +kernel
theorem E26_17 {call : jv_F} {l0 l1 l2 : Option Value} {x y : Int32} {st : List Value} {h : jv_H} : jv_ev call 26 17 [l0, l1, l2] (.int y :: .int x :: st) h = if y ≤ x then jv_ev call 26 54 [l0, l1, l2] st h else jv_ev call 26 20 [l0, l1, l2] st h := je_icmp D26_17 (by decide) rfl rfl
theorem D26_20 : decode (jt_code 26) 20 = .ok (.aload_n 0, 1) := by decide +kernel
theorem E26_20 {call : jv_F} {l1 l2 : Option Value} {a : Nat} {st : List Value} {h : jv_H} : jv_ev call 26 20 [some (.ref a), l1, l2] st h = jv_ev call 26 21 [some (.ref a), l1, l2] (.ref a :: st) h := je_aload_n (r := some a) D26_20 rfl rfl
theorem D26_21 : decode (jt_code 26) 21 = .ok (.getfield 88, 3) := by decide +kernel
theorem E26_21 {call : jv_F} {l0 l1 l2 : Option Value}  {st : List Value} {m : Nat} {I : Nat → Int32} {A : Nat → Nat → Int32} {L : Nat → Nat → Int64} {rest : Nat → Option jv_C} {z : Nat × Nat} : jv_ev call 26 21 [l0, l1, l2] (.ref m :: st) (jm_H m I A L rest z) = jv_ev call 26 24 [l0, l1, l2] (.ref (m + 25) :: st) (jm_H m I A L rest z) := je_get D26_21 rfl (by decide) jm_g29
theorem D26_24 : decode (jt_code 26) 24 = .ok (.iload_n 2, 1) := by decide +kernel
theorem E26_24 {call : jv_F} {l0 l1 : Option Value} {x : Int32} {st : List Value} {h : jv_H} : jv_ev call 26 24 [l0, l1, some (.int x)] st h = jv_ev call 26 25 [l0, l1, some (.int x)] (.int x :: st) h := je_iload_n D26_24 rfl rfl
theorem D26_25 : decode (jt_code 26) 25 = .ok (.aload_n 0, 1) := by decide +kernel
theorem E26_25 {call : jv_F} {l1 l2 : Option Value} {a : Nat} {st : List Value} {h : jv_H} : jv_ev call 26 25 [some (.ref a), l1, l2] st h = jv_ev call 26 26 [some (.ref a), l1, l2] (.ref a :: st) h := je_aload_n (r := some a) D26_25 rfl rfl
theorem D26_26 : decode (jt_code 26) 26 = .ok (.getfield 88, 3) := by decide +kernel
theorem E26_26 {call : jv_F} {l0 l1 l2 : Option Value}  {st : List Value} {m : Nat} {I : Nat → Int32} {A : Nat → Nat → Int32} {L : Nat → Nat → Int64} {rest : Nat → Option jv_C} {z : Nat × Nat} : jv_ev call 26 26 [l0, l1, l2] (.ref m :: st) (jm_H m I A L rest z) = jv_ev call 26 29 [l0, l1, l2] (.ref (m + 25) :: st) (jm_H m I A L rest z) := je_get D26_26 rfl (by decide) jm_g29
theorem D26_29 : decode (jt_code 26) 29 = .ok (.iload_n 2, 1) := by decide +kernel
theorem E26_29 {call : jv_F} {l0 l1 : Option Value} {x : Int32} {st : List Value} {h : jv_H} : jv_ev call 26 29 [l0, l1, some (.int x)] st h = jv_ev call 26 30 [l0, l1, some (.int x)] (.int x :: st) h := je_iload_n D26_29 rfl rfl
theorem D26_30 : decode (jt_code 26) 30 = .ok (.iconst 1, 1) := by decide +kernel
theorem E26_30 {call : jv_F} {l0 l1 l2 : Option Value}  {st : List Value} {h : jv_H} : jv_ev call 26 30 [l0, l1, l2] st h = jv_ev call 26 31 [l0, l1, l2] (.int (nI 1) :: st) h := je_iconst D26_30 rfl (by decide)
theorem D26_31 : decode (jt_code 26) 31 = .ok (.iadd, 1) := by decide +kernel
theorem E26_31 {call : jv_F} {l0 l1 l2 : Option Value} {x y : Int32} {st : List Value} {h : jv_H} : jv_ev call 26 31 [l0, l1, l2] (.int y :: .int x :: st) h = jv_ev call 26 32 [l0, l1, l2] (.int (x + y) :: st) h := je_b2 (f := fun x y => x + y) D26_31 rfl (fun _ => rfl)
theorem D26_32 : decode (jt_code 26) 32 = .ok (.iaload, 1) := by decide +kernel
theorem E26_32 {call : jv_F} {l0 l1 l2 : Option Value} {i : Nat} {st : List Value} {m : Nat} {I : Nat → Int32} {A : Nat → Nat → Int32} {L : Nat → Nat → Int64} {rest : Nat → Option jv_C} {z : Nat × Nat} (hi : i < 18) : jv_ev call 26 32 [l0, l1, l2] (.int (nI i) :: .ref (m + 25) :: st) (jm_H m I A L rest z) = jv_ev call 26 33 [l0, l1, l2] (.int (A 29 i) :: st) (jm_H m I A L rest z) := je_iald D26_32 rfl (jm_l29 hi)
theorem D26_33 : decode (jt_code 26) 33 = .ok (.iastore, 1) := by decide +kernel
theorem E26_33 {call : jv_F} {l0 l1 l2 : Option Value} {i : Nat} {v : Int32} {st : List Value} {m : Nat} {I : Nat → Int32} {A : Nat → Nat → Int32} {L : Nat → Nat → Int64} {rest : Nat → Option jv_C} {z : Nat × Nat} (hi : i < 18) : jv_ev call 26 33 [l0, l1, l2] (.int v :: .int (nI i) :: .ref (m + 25) :: st) (jm_H m I A L rest z) = jv_ev call 26 34 [l0, l1, l2] st (jm_H m I (va_up A 29 (upd (A 29) i v)) L rest z) := je_iast D26_33 rfl (jm_s29 hi)
theorem D26_34 : decode (jt_code 26) 34 = .ok (.aload_n 0, 1) := by decide +kernel
theorem E26_34 {call : jv_F} {l1 l2 : Option Value} {a : Nat} {st : List Value} {h : jv_H} : jv_ev call 26 34 [some (.ref a), l1, l2] st h = jv_ev call 26 35 [some (.ref a), l1, l2] (.ref a :: st) h := je_aload_n (r := some a) D26_34 rfl rfl
theorem D26_35 : decode (jt_code 26) 35 = .ok (.getfield 91, 3) := by decide +kernel
theorem E26_35 {call : jv_F} {l0 l1 l2 : Option Value}  {st : List Value} {m : Nat} {I : Nat → Int32} {A : Nat → Nat → Int32} {L : Nat → Nat → Int64} {rest : Nat → Option jv_C} {z : Nat × Nat} : jv_ev call 26 35 [l0, l1, l2] (.ref m :: st) (jm_H m I A L rest z) = jv_ev call 26 38 [l0, l1, l2] (.ref (m + 26) :: st) (jm_H m I A L rest z) := je_get D26_35 rfl (by decide) jm_g30
theorem D26_38 : decode (jt_code 26) 38 = .ok (.iload_n 2, 1) := by decide +kernel
theorem E26_38 {call : jv_F} {l0 l1 : Option Value} {x : Int32} {st : List Value} {h : jv_H} : jv_ev call 26 38 [l0, l1, some (.int x)] st h = jv_ev call 26 39 [l0, l1, some (.int x)] (.int x :: st) h := je_iload_n D26_38 rfl rfl
theorem D26_39 : decode (jt_code 26) 39 = .ok (.aload_n 0, 1) := by decide +kernel
theorem E26_39 {call : jv_F} {l1 l2 : Option Value} {a : Nat} {st : List Value} {h : jv_H} : jv_ev call 26 39 [some (.ref a), l1, l2] st h = jv_ev call 26 40 [some (.ref a), l1, l2] (.ref a :: st) h := je_aload_n (r := some a) D26_39 rfl rfl
theorem D26_40 : decode (jt_code 26) 40 = .ok (.getfield 91, 3) := by decide +kernel
theorem E26_40 {call : jv_F} {l0 l1 l2 : Option Value}  {st : List Value} {m : Nat} {I : Nat → Int32} {A : Nat → Nat → Int32} {L : Nat → Nat → Int64} {rest : Nat → Option jv_C} {z : Nat × Nat} : jv_ev call 26 40 [l0, l1, l2] (.ref m :: st) (jm_H m I A L rest z) = jv_ev call 26 43 [l0, l1, l2] (.ref (m + 26) :: st) (jm_H m I A L rest z) := je_get D26_40 rfl (by decide) jm_g30
theorem D26_43 : decode (jt_code 26) 43 = .ok (.iload_n 2, 1) := by decide +kernel
theorem E26_43 {call : jv_F} {l0 l1 : Option Value} {x : Int32} {st : List Value} {h : jv_H} : jv_ev call 26 43 [l0, l1, some (.int x)] st h = jv_ev call 26 44 [l0, l1, some (.int x)] (.int x :: st) h := je_iload_n D26_43 rfl rfl
theorem D26_44 : decode (jt_code 26) 44 = .ok (.iconst 1, 1) := by decide +kernel
theorem E26_44 {call : jv_F} {l0 l1 l2 : Option Value}  {st : List Value} {h : jv_H} : jv_ev call 26 44 [l0, l1, l2] st h = jv_ev call 26 45 [l0, l1, l2] (.int (nI 1) :: st) h := je_iconst D26_44 rfl (by decide)
theorem D26_45 : decode (jt_code 26) 45 = .ok (.iadd, 1) := by decide +kernel
theorem E26_45 {call : jv_F} {l0 l1 l2 : Option Value} {x y : Int32} {st : List Value} {h : jv_H} : jv_ev call 26 45 [l0, l1, l2] (.int y :: .int x :: st) h = jv_ev call 26 46 [l0, l1, l2] (.int (x + y) :: st) h := je_b2 (f := fun x y => x + y) D26_45 rfl (fun _ => rfl)
theorem D26_46 : decode (jt_code 26) 46 = .ok (.iaload, 1) := by decide +kernel
theorem E26_46 {call : jv_F} {l0 l1 l2 : Option Value} {i : Nat} {st : List Value} {m : Nat} {I : Nat → Int32} {A : Nat → Nat → Int32} {L : Nat → Nat → Int64} {rest : Nat → Option jv_C} {z : Nat × Nat} (hi : i < 18) : jv_ev call 26 46 [l0, l1, l2] (.int (nI i) :: .ref (m + 26) :: st) (jm_H m I A L rest z) = jv_ev call 26 47 [l0, l1, l2] (.int (A 30 i) :: st) (jm_H m I A L rest z) := je_iald D26_46 rfl (jm_l30 hi)
theorem D26_47 : decode (jt_code 26) 47 = .ok (.iastore, 1) := by decide +kernel
theorem E26_47 {call : jv_F} {l0 l1 l2 : Option Value} {i : Nat} {v : Int32} {st : List Value} {m : Nat} {I : Nat → Int32} {A : Nat → Nat → Int32} {L : Nat → Nat → Int64} {rest : Nat → Option jv_C} {z : Nat × Nat} (hi : i < 18) : jv_ev call 26 47 [l0, l1, l2] (.int v :: .int (nI i) :: .ref (m + 26) :: st) (jm_H m I A L rest z) = jv_ev call 26 48 [l0, l1, l2] st (jm_H m I (va_up A 30 (upd (A 30) i v)) L rest z) := je_iast D26_47 rfl (jm_s30 hi)
theorem D26_48 : decode (jt_code 26) 48 = .ok (.iinc 2 1, 3) := by decide +kernel
theorem E26_48 {call : jv_F} {l0 l1 : Option Value} {x : Int32} {st : List Value} {h : jv_H} (hk : ¬ jv_is2 (some l1) = true) : jv_ev call 26 48 [l0, l1, some (.int x)] st h = jv_ev call 26 51 [l0, l1, some (.int (x + (nI 1)))] st h := je_iinc D26_48 rfl rfl (v := x + (nI 1)) (by rfl) (by show jv_st1 _ 2 _ = _; simp only [jv_st1, jv_kill, List.getElem?_cons_succ, List.getElem?_cons_zero, hk, if_false]; rfl)
theorem D26_51 : decode (jt_code 26) 51 = .ok (.goto (-39), 3) := by decide +kernel
theorem E26_51 {call : jv_F} {l0 l1 l2 : Option Value}  {st : List Value} {h : jv_H} : jv_ev call 26 51 [l0, l1, l2] st h = jv_ev call 26 12 [l0, l1, l2] st h := je_goto D26_51 (by decide)
theorem D26_54 : decode (jt_code 26) 54 = .ok (.return_, 1) := by decide +kernel
theorem E26_54 {call : jv_F} {l0 l1 l2 : Option Value}  {h : jv_H} : jv_ev call 26 54 [l0, l1, l2] [] h = some (none, h) := je_ret D26_54 rfl
/-! method 27: DrumMachineModel.passes -/
theorem N27 {d : Nat} {b : Nat} {a0 : Int32} {h : jv_H} : jv_run (d + 1) 27 [.ref b, .int a0] h = jv_ev (jv_run d) 27 0 [some (.ref b), some (.int a0), none] [] h := jv_run_eq (Nat.le_of_ble_eq_true rfl) rfl
theorem D27_0 : decode (jt_code 27) 0 = .ok (.iconst 2, 1) := by decide +kernel
theorem E27_0 {call : jv_F} {l0 l1 l2 : Option Value}  {st : List Value} {h : jv_H} : jv_ev call 27 0 [l0, l1, l2] st h = jv_ev call 27 1 [l0, l1, l2] (.int (nI 2) :: st) h := je_iconst D27_0 rfl (by decide)
theorem D27_1 : decode (jt_code 27) 1 = .ok (.iload_n 1, 1) := by decide +kernel
theorem E27_1 {call : jv_F} {l0 l2 : Option Value} {x : Int32} {st : List Value} {h : jv_H} : jv_ev call 27 1 [l0, some (.int x), l2] st h = jv_ev call 27 2 [l0, some (.int x), l2] (.int x :: st) h := je_iload_n D27_1 rfl rfl
theorem D27_2 : decode (jt_code 27) 2 = .ok (.bipush 16, 2) := by decide +kernel
theorem E27_2 {call : jv_F} {l0 l1 l2 : Option Value}  {st : List Value} {h : jv_H} : jv_ev call 27 2 [l0, l1, l2] st h = jv_ev call 27 4 [l0, l1, l2] (.int (nI 16) :: st) h := je_bipush D27_2 rfl (by decide)
theorem D27_4 : decode (jt_code 27) 4 = .ok (.irem, 1) := by decide +kernel
theorem E27_4 {call : jv_F} {l0 l1 l2 : Option Value} {x y : Int32} {st : List Value} {h : jv_H} (hy : ¬ y = 0) : jv_ev call 27 4 [l0, l1, l2] (.int y :: .int x :: st) h = jv_ev call 27 5 [l0, l1, l2] (.int (x - x / y * y) :: st) h := je_irem D27_4 rfl hy
theorem D27_5 : decode (jt_code 27) 5 = .ok (.imul, 1) := by decide +kernel
theorem E27_5 {call : jv_F} {l0 l1 l2 : Option Value} {x y : Int32} {st : List Value} {h : jv_H} : jv_ev call 27 5 [l0, l1, l2] (.int y :: .int x :: st) h = jv_ev call 27 6 [l0, l1, l2] (.int (x * y) :: st) h := je_b2 (f := fun x y => x * y) D27_5 rfl (fun _ => rfl)
theorem D27_6 : decode (jt_code 27) 6 = .ok (.istore_n 2, 1) := by decide +kernel
theorem E27_6 {call : jv_F} {l0 l1 l2 : Option Value} {x : Int32} {st : List Value} {h : jv_H} (hk : ¬ jv_is2 (some l1) = true) : jv_ev call 27 6 [l0, l1, l2] (.int x :: st) h = jv_ev call 27 7 [l0, l1, some (.int x)] st h := je_istore_n D27_6 rfl (Nat.le_of_ble_eq_true rfl) (by show jv_st1 _ 2 _ = _; simp only [jv_st1, jv_kill, List.getElem?_cons_succ, List.getElem?_cons_zero, hk, if_false]; rfl)
theorem D27_7 : decode (jt_code 27) 7 = .ok (.aload_n 0, 1) := by decide +kernel
theorem E27_7 {call : jv_F} {l1 l2 : Option Value} {a : Nat} {st : List Value} {h : jv_H} : jv_ev call 27 7 [some (.ref a), l1, l2] st h = jv_ev call 27 8 [some (.ref a), l1, l2] (.ref a :: st) h := je_aload_n (r := some a) D27_7 rfl rfl
theorem D27_8 : decode (jt_code 27) 8 = .ok (.getfield 148, 3) := by decide +kernel
theorem E27_8 {call : jv_F} {l0 l1 l2 : Option Value}  {st : List Value} {m : Nat} {I : Nat → Int32} {A : Nat → Nat → Int32} {L : Nat → Nat → Int64} {rest : Nat → Option jv_C} {z : Nat × Nat} : jv_ev call 27 8 [l0, l1, l2] (.ref m :: st) (jm_H m I A L rest z) = jv_ev call 27 11 [l0, l1, l2] (.int (I 36) :: st) (jm_H m I A L rest z) := je_get D27_8 rfl (by decide) jm_g36
theorem D27_11 : decode (jt_code 27) 11 = .ok (.iload_n 2, 1) := by decide +kernel
theorem E27_11 {call : jv_F} {l0 l1 : Option Value} {x : Int32} {st : List Value} {h : jv_H} : jv_ev call 27 11 [l0, l1, some (.int x)] st h = jv_ev call 27 12 [l0, l1, some (.int x)] (.int x :: st) h := je_iload_n D27_11 rfl rfl
theorem D27_12 : decode (jt_code 27) 12 = .ok (.aload_n 0, 1) := by decide +kernel
theorem E27_12 {call : jv_F} {l1 l2 : Option Value} {a : Nat} {st : List Value} {h : jv_H} : jv_ev call 27 12 [some (.ref a), l1, l2] st h = jv_ev call 27 13 [some (.ref a), l1, l2] (.ref a :: st) h := je_aload_n (r := some a) D27_12 rfl rfl
theorem D27_13 : decode (jt_code 27) 13 = .ok (.getfield 148, 3) := by decide +kernel
theorem E27_13 {call : jv_F} {l0 l1 l2 : Option Value}  {st : List Value} {m : Nat} {I : Nat → Int32} {A : Nat → Nat → Int32} {L : Nat → Nat → Int64} {rest : Nat → Option jv_C} {z : Nat × Nat} : jv_ev call 27 13 [l0, l1, l2] (.ref m :: st) (jm_H m I A L rest z) = jv_ev call 27 16 [l0, l1, l2] (.int (I 36) :: st) (jm_H m I A L rest z) := je_get D27_13 rfl (by decide) jm_g36
theorem D27_16 : decode (jt_code 27) 16 = .ok (.bipush 32, 2) := by decide +kernel
theorem E27_16 {call : jv_F} {l0 l1 l2 : Option Value}  {st : List Value} {h : jv_H} : jv_ev call 27 16 [l0, l1, l2] st h = jv_ev call 27 18 [l0, l1, l2] (.int (nI 32) :: st) h := je_bipush D27_16 rfl (by decide)
theorem D27_18 : decode (jt_code 27) 18 = .ok (.irem, 1) := by decide +kernel
theorem E27_18 {call : jv_F} {l0 l1 l2 : Option Value} {x y : Int32} {st : List Value} {h : jv_H} (hy : ¬ y = 0) : jv_ev call 27 18 [l0, l1, l2] (.int y :: .int x :: st) h = jv_ev call 27 19 [l0, l1, l2] (.int (x - x / y * y) :: st) h := je_irem D27_18 rfl hy
theorem D27_19 : decode (jt_code 27) 19 = .ok (.isub, 1) := by decide +kernel
theorem E27_19 {call : jv_F} {l0 l1 l2 : Option Value} {x y : Int32} {st : List Value} {h : jv_H} : jv_ev call 27 19 [l0, l1, l2] (.int y :: .int x :: st) h = jv_ev call 27 20 [l0, l1, l2] (.int (x - y) :: st) h := je_b2 (f := fun x y => x - y) D27_19 rfl (fun _ => rfl)
theorem D27_20 : decode (jt_code 27) 20 = .ok (.bipush 32, 2) := by decide +kernel
theorem E27_20 {call : jv_F} {l0 l1 l2 : Option Value}  {st : List Value} {h : jv_H} : jv_ev call 27 20 [l0, l1, l2] st h = jv_ev call 27 22 [l0, l1, l2] (.int (nI 32) :: st) h := je_bipush D27_20 rfl (by decide)
theorem D27_22 : decode (jt_code 27) 22 = .ok (.iadd, 1) := by decide +kernel
theorem E27_22 {call : jv_F} {l0 l1 l2 : Option Value} {x y : Int32} {st : List Value} {h : jv_H} : jv_ev call 27 22 [l0, l1, l2] (.int y :: .int x :: st) h = jv_ev call 27 23 [l0, l1, l2] (.int (x + y) :: st) h := je_b2 (f := fun x y => x + y) D27_22 rfl (fun _ => rfl)
theorem D27_23 : decode (jt_code 27) 23 = .ok (.bipush 32, 2) := by decide +kernel
theorem E27_23 {call : jv_F} {l0 l1 l2 : Option Value}  {st : List Value} {h : jv_H} : jv_ev call 27 23 [l0, l1, l2] st h = jv_ev call 27 25 [l0, l1, l2] (.int (nI 32) :: st) h := je_bipush D27_23 rfl (by decide)
theorem D27_25 : decode (jt_code 27) 25 = .ok (.irem, 1) := by decide +kernel
theorem E27_25 {call : jv_F} {l0 l1 l2 : Option Value} {x y : Int32} {st : List Value} {h : jv_H} (hy : ¬ y = 0) : jv_ev call 27 25 [l0, l1, l2] (.int y :: .int x :: st) h = jv_ev call 27 26 [l0, l1, l2] (.int (x - x / y * y) :: st) h := je_irem D27_25 rfl hy
theorem D27_26 : decode (jt_code 27) 26 = .ok (.iadd, 1) := by decide +kernel
theorem E27_26 {call : jv_F} {l0 l1 l2 : Option Value} {x y : Int32} {st : List Value} {h : jv_H} : jv_ev call 27 26 [l0, l1, l2] (.int y :: .int x :: st) h = jv_ev call 27 27 [l0, l1, l2] (.int (x + y) :: st) h := je_b2 (f := fun x y => x + y) D27_26 rfl (fun _ => rfl)
theorem D27_27 : decode (jt_code 27) 27 = .ok (.ireturn, 1) := by decide +kernel
theorem E27_27 {call : jv_F} {l0 l1 l2 : Option Value} {v : Int32} {h : jv_H} : jv_ev call 27 27 [l0, l1, l2] [.int v] h = some (some (.int v), h) := je_iret (ty := .int) D27_27 rfl rfl rfl
/-! method 28: DrumMachineModel.begin -/
theorem N28 {d : Nat} {b : Nat} {h : jv_H} : jv_run (d + 1) 28 [.ref b] h = jv_ev (jv_run d) 28 0 [some (.ref b), none, none] [] h := jv_run_eq (Nat.le_of_ble_eq_true rfl) rfl
theorem D28_0 : decode (jt_code 28) 0 = .ok (.aload_n 0, 1) := by decide +kernel
theorem E28_0 {call : jv_F} {l1 l2 : Option Value} {a : Nat} {st : List Value} {h : jv_H} : jv_ev call 28 0 [some (.ref a), l1, l2] st h = jv_ev call 28 1 [some (.ref a), l1, l2] (.ref a :: st) h := je_aload_n (r := some a) D28_0 rfl rfl
theorem D28_1 : decode (jt_code 28) 1 = .ok (.aload_n 0, 1) := by decide +kernel
theorem E28_1 {call : jv_F} {l1 l2 : Option Value} {a : Nat} {st : List Value} {h : jv_H} : jv_ev call 28 1 [some (.ref a), l1, l2] st h = jv_ev call 28 2 [some (.ref a), l1, l2] (.ref a :: st) h := je_aload_n (r := some a) D28_1 rfl rfl
theorem D28_2 : decode (jt_code 28) 2 = .ok (.getfield 88, 3) := by decide +kernel
theorem E28_2 {call : jv_F} {l0 l1 l2 : Option Value}  {st : List Value} {m : Nat} {I : Nat → Int32} {A : Nat → Nat → Int32} {L : Nat → Nat → Int64} {rest : Nat → Option jv_C} {z : Nat × Nat} : jv_ev call 28 2 [l0, l1, l2] (.ref m :: st) (jm_H m I A L rest z) = jv_ev call 28 5 [l0, l1, l2] (.ref (m + 25) :: st) (jm_H m I A L rest z) := je_get D28_2 rfl (by decide) jm_g29
theorem D28_5 : decode (jt_code 28) 5 = .ok (.iconst 0, 1) := by decide +kernel
theorem E28_5 {call : jv_F} {l0 l1 l2 : Option Value}  {st : List Value} {h : jv_H} : jv_ev call 28 5 [l0, l1, l2] st h = jv_ev call 28 6 [l0, l1, l2] (.int (nI 0) :: st) h := je_iconst D28_5 rfl (by decide)
theorem D28_6 : decode (jt_code 28) 6 = .ok (.iaload, 1) := by decide +kernel
theorem E28_6 {call : jv_F} {l0 l1 l2 : Option Value} {i : Nat} {st : List Value} {m : Nat} {I : Nat → Int32} {A : Nat → Nat → Int32} {L : Nat → Nat → Int64} {rest : Nat → Option jv_C} {z : Nat × Nat} (hi : i < 18) : jv_ev call 28 6 [l0, l1, l2] (.int (nI i) :: .ref (m + 25) :: st) (jm_H m I A L rest z) = jv_ev call 28 7 [l0, l1, l2] (.int (A 29 i) :: st) (jm_H m I A L rest z) := je_iald D28_6 rfl (jm_l29 hi)
theorem D28_7 : decode (jt_code 28) 7 = .ok (.putfield 142, 3) := by decide +kernel
theorem E28_7 {call : jv_F} {l0 l1 l2 : Option Value} {v : Int32} {st : List Value} {m : Nat} {I : Nat → Int32} {A : Nat → Nat → Int32} {L : Nat → Nat → Int64} {rest : Nat → Option jv_C} {z : Nat × Nat} : jv_ev call 28 7 [l0, l1, l2] (.int v :: .ref m :: st) (jm_H m I A L rest z) = jv_ev call 28 10 [l0, l1, l2] st (jm_H m (upd I 32 v) A L rest z) := je_put D28_7 rfl (by decide) (by decide) jm_p32
theorem D28_10 : decode (jt_code 28) 10 = .ok (.aload_n 0, 1) := by decide +kernel
theorem E28_10 {call : jv_F} {l1 l2 : Option Value} {a : Nat} {st : List Value} {h : jv_H} : jv_ev call 28 10 [some (.ref a), l1, l2] st h = jv_ev call 28 11 [some (.ref a), l1, l2] (.ref a :: st) h := je_aload_n (r := some a) D28_10 rfl rfl
theorem D28_11 : decode (jt_code 28) 11 = .ok (.aload_n 0, 1) := by decide +kernel
theorem E28_11 {call : jv_F} {l1 l2 : Option Value} {a : Nat} {st : List Value} {h : jv_H} : jv_ev call 28 11 [some (.ref a), l1, l2] st h = jv_ev call 28 12 [some (.ref a), l1, l2] (.ref a :: st) h := je_aload_n (r := some a) D28_11 rfl rfl
theorem D28_12 : decode (jt_code 28) 12 = .ok (.getfield 91, 3) := by decide +kernel
theorem E28_12 {call : jv_F} {l0 l1 l2 : Option Value}  {st : List Value} {m : Nat} {I : Nat → Int32} {A : Nat → Nat → Int32} {L : Nat → Nat → Int64} {rest : Nat → Option jv_C} {z : Nat × Nat} : jv_ev call 28 12 [l0, l1, l2] (.ref m :: st) (jm_H m I A L rest z) = jv_ev call 28 15 [l0, l1, l2] (.ref (m + 26) :: st) (jm_H m I A L rest z) := je_get D28_12 rfl (by decide) jm_g30
theorem D28_15 : decode (jt_code 28) 15 = .ok (.iconst 0, 1) := by decide +kernel
theorem E28_15 {call : jv_F} {l0 l1 l2 : Option Value}  {st : List Value} {h : jv_H} : jv_ev call 28 15 [l0, l1, l2] st h = jv_ev call 28 16 [l0, l1, l2] (.int (nI 0) :: st) h := je_iconst D28_15 rfl (by decide)
theorem D28_16 : decode (jt_code 28) 16 = .ok (.iaload, 1) := by decide +kernel
theorem E28_16 {call : jv_F} {l0 l1 l2 : Option Value} {i : Nat} {st : List Value} {m : Nat} {I : Nat → Int32} {A : Nat → Nat → Int32} {L : Nat → Nat → Int64} {rest : Nat → Option jv_C} {z : Nat × Nat} (hi : i < 18) : jv_ev call 28 16 [l0, l1, l2] (.int (nI i) :: .ref (m + 26) :: st) (jm_H m I A L rest z) = jv_ev call 28 17 [l0, l1, l2] (.int (A 30 i) :: st) (jm_H m I A L rest z) := je_iald D28_16 rfl (jm_l30 hi)
theorem D28_17 : decode (jt_code 28) 17 = .ok (.putfield 176, 3) := by decide +kernel
theorem E28_17 {call : jv_F} {l0 l1 l2 : Option Value} {v : Int32} {st : List Value} {m : Nat} {I : Nat → Int32} {A : Nat → Nat → Int32} {L : Nat → Nat → Int64} {rest : Nat → Option jv_C} {z : Nat × Nat} : jv_ev call 28 17 [l0, l1, l2] (.int v :: .ref m :: st) (jm_H m I A L rest z) = jv_ev call 28 20 [l0, l1, l2] st (jm_H m (upd I 33 v) A L rest z) := je_put D28_17 rfl (by decide) (by decide) jm_p33
theorem D28_20 : decode (jt_code 28) 20 = .ok (.aload_n 0, 1) := by decide +kernel
theorem E28_20 {call : jv_F} {l1 l2 : Option Value} {a : Nat} {st : List Value} {h : jv_H} : jv_ev call 28 20 [some (.ref a), l1, l2] st h = jv_ev call 28 21 [some (.ref a), l1, l2] (.ref a :: st) h := je_aload_n (r := some a) D28_20 rfl rfl
theorem D28_21 : decode (jt_code 28) 21 = .ok (.iconst 0, 1) := by decide +kernel
theorem E28_21 {call : jv_F} {l0 l1 l2 : Option Value}  {st : List Value} {h : jv_H} : jv_ev call 28 21 [l0, l1, l2] st h = jv_ev call 28 22 [l0, l1, l2] (.int (nI 0) :: st) h := je_iconst D28_21 rfl (by decide)
theorem D28_22 : decode (jt_code 28) 22 = .ok (.invokevirtual 201, 3) := by decide +kernel
theorem E28_22 {call : jv_F} {l0 l1 l2 : Option Value} {v0 : Value}  {st : List Value} {m : Nat} {I : Nat → Int32} {A : Nat → Nat → Int32} {L : Nat → Nat → Int64} {rest : Nat → Option jv_C} {z : Nat × Nat} (hw : jv_wide st = true) (hc : (call 26 [.ref m, v0] (jm_H m I A L rest z)).isSome = true) : jv_ev call 28 22 [l0, l1, l2] (v0 :: .ref m :: st) (jm_H m I A L rest z) = jv_ev call 28 25 [l0, l1, l2] ((((call 26 [.ref m, v0] (jm_H m I A L rest z)).getD (none, (jm_H m I A L rest z))).1).toList ++ st) ((call 26 [.ref m, v0] (jm_H m I A L rest z)).getD (none, (jm_H m I A L rest z))).2 := by
  obtain ⟨⟨r, h'⟩, hv⟩ := Option.isSome_iff_exists.mp hc
  rw [hv]
  exact je_virt (y := 26) (as := [v0]) D28_22 rfl (by decide) (by decide) rfl jm_cl hw hv
theorem D28_25 : decode (jt_code 28) 25 = .ok (.aload_n 0, 1) := by decide +kernel
theorem E28_25 {call : jv_F} {l1 l2 : Option Value} {a : Nat} {st : List Value} {h : jv_H} : jv_ev call 28 25 [some (.ref a), l1, l2] st h = jv_ev call 28 26 [some (.ref a), l1, l2] (.ref a :: st) h := je_aload_n (r := some a) D28_25 rfl rfl
theorem D28_26 : decode (jt_code 28) 26 = .ok (.getfield 70, 3) := by decide +kernel
theorem E28_26 {call : jv_F} {l0 l1 l2 : Option Value}  {st : List Value} {m : Nat} {I : Nat → Int32} {A : Nat → Nat → Int32} {L : Nat → Nat → Int64} {rest : Nat → Option jv_C} {z : Nat × Nat} : jv_ev call 28 26 [l0, l1, l2] (.ref m :: st) (jm_H m I A L rest z) = jv_ev call 28 29 [l0, l1, l2] (.ref (m + 19) :: st) (jm_H m I A L rest z) := je_get D28_26 rfl (by decide) jm_g23
theorem D28_29 : decode (jt_code 28) 29 = .ok (.aload_n 0, 1) := by decide +kernel
theorem E28_29 {call : jv_F} {l1 l2 : Option Value} {a : Nat} {st : List Value} {h : jv_H} : jv_ev call 28 29 [some (.ref a), l1, l2] st h = jv_ev call 28 30 [some (.ref a), l1, l2] (.ref a :: st) h := je_aload_n (r := some a) D28_29 rfl rfl
theorem D28_30 : decode (jt_code 28) 30 = .ok (.getfield 176, 3) := by decide +kernel
theorem E28_30 {call : jv_F} {l0 l1 l2 : Option Value}  {st : List Value} {m : Nat} {I : Nat → Int32} {A : Nat → Nat → Int32} {L : Nat → Nat → Int64} {rest : Nat → Option jv_C} {z : Nat × Nat} : jv_ev call 28 30 [l0, l1, l2] (.ref m :: st) (jm_H m I A L rest z) = jv_ev call 28 33 [l0, l1, l2] (.int (I 33) :: st) (jm_H m I A L rest z) := je_get D28_30 rfl (by decide) jm_g33
theorem D28_33 : decode (jt_code 28) 33 = .ok (.iaload, 1) := by decide +kernel
theorem E28_33 {call : jv_F} {l0 l1 l2 : Option Value} {i : Nat} {st : List Value} {m : Nat} {I : Nat → Int32} {A : Nat → Nat → Int32} {L : Nat → Nat → Int64} {rest : Nat → Option jv_C} {z : Nat × Nat} (hi : i < 17) : jv_ev call 28 33 [l0, l1, l2] (.int (nI i) :: .ref (m + 19) :: st) (jm_H m I A L rest z) = jv_ev call 28 34 [l0, l1, l2] (.int (A 23 i) :: st) (jm_H m I A L rest z) := je_iald D28_33 rfl (jm_l23 hi)
theorem D28_34 : decode (jt_code 28) 34 = .ok (.istore_n 1, 1) := by decide +kernel
theorem E28_34 {call : jv_F} {l0 l1 l2 : Option Value} {x : Int32} {st : List Value} {h : jv_H} (hk : ¬ jv_is2 (some l0) = true) : jv_ev call 28 34 [l0, l1, l2] (.int x :: st) h = jv_ev call 28 35 [l0, some (.int x), l2] st h := je_istore_n D28_34 rfl (Nat.le_of_ble_eq_true rfl) (by show jv_st1 _ 1 _ = _; simp only [jv_st1, jv_kill, List.getElem?_cons_succ, List.getElem?_cons_zero, hk, if_false]; rfl)
theorem D28_35 : decode (jt_code 28) 35 = .ok (.aload_n 0, 1) := by decide +kernel
theorem E28_35 {call : jv_F} {l1 l2 : Option Value} {a : Nat} {st : List Value} {h : jv_H} : jv_ev call 28 35 [some (.ref a), l1, l2] st h = jv_ev call 28 36 [some (.ref a), l1, l2] (.ref a :: st) h := je_aload_n (r := some a) D28_35 rfl rfl
theorem D28_36 : decode (jt_code 28) 36 = .ok (.getfield 142, 3) := by decide +kernel
theorem E28_36 {call : jv_F} {l0 l1 l2 : Option Value}  {st : List Value} {m : Nat} {I : Nat → Int32} {A : Nat → Nat → Int32} {L : Nat → Nat → Int64} {rest : Nat → Option jv_C} {z : Nat × Nat} : jv_ev call 28 36 [l0, l1, l2] (.ref m :: st) (jm_H m I A L rest z) = jv_ev call 28 39 [l0, l1, l2] (.int (I 32) :: st) (jm_H m I A L rest z) := je_get D28_36 rfl (by decide) jm_g32
theorem D28_39 : decode (jt_code 28) 39 = .ok (.iconst 1, 1) := by decide +kernel
theorem E28_39 {call : jv_F} {l0 l1 l2 : Option Value}  {st : List Value} {h : jv_H} : jv_ev call 28 39 [l0, l1, l2] st h = jv_ev call 28 40 [l0, l1, l2] (.int (nI 1) :: st) h := je_iconst D28_39 rfl (by decide)
theorem D28_40 : decode (jt_code 28) 40 = .ok (.if_icmp .ne 35, 3) := by decide +kernel
theorem E28_40 {call : jv_F} {l0 l1 l2 : Option Value} {x y : Int32} {st : List Value} {h : jv_H} : jv_ev call 28 40 [l0, l1, l2] (.int y :: .int x :: st) h = if ¬ x = y then jv_ev call 28 75 [l0, l1, l2] st h else jv_ev call 28 43 [l0, l1, l2] st h := je_icmp D28_40 (by decide) rfl rfl
theorem D28_43 : decode (jt_code 28) 43 = .ok (.aload_n 0, 1) := by decide +kernel
theorem E28_43 {call : jv_F} {l1 l2 : Option Value} {a : Nat} {st : List Value} {h : jv_H} : jv_ev call 28 43 [some (.ref a), l1, l2] st h = jv_ev call 28 44 [some (.ref a), l1, l2] (.ref a :: st) h := je_aload_n (r := some a) D28_43 rfl rfl
theorem D28_44 : decode (jt_code 28) 44 = .ok (.aload_n 0, 1) := by decide +kernel
theorem E28_44 {call : jv_F} {l1 l2 : Option Value} {a : Nat} {st : List Value} {h : jv_H} : jv_ev call 28 44 [some (.ref a), l1, l2] st h = jv_ev call 28 45 [some (.ref a), l1, l2] (.ref a :: st) h := je_aload_n (r := some a) D28_44 rfl rfl
theorem D28_45 : decode (jt_code 28) 45 = .ok (.iload_n 1, 1) := by decide +kernel
theorem E28_45 {call : jv_F} {l0 l2 : Option Value} {x : Int32} {st : List Value} {h : jv_H} : jv_ev call 28 45 [l0, some (.int x), l2] st h = jv_ev call 28 46 [l0, some (.int x), l2] (.int x :: st) h := je_iload_n D28_45 rfl rfl
theorem D28_46 : decode (jt_code 28) 46 = .ok (.invokevirtual 204, 3) := by decide +kernel
theorem E28_46 {call : jv_F} {l0 l1 l2 : Option Value} {v0 : Value}  {st : List Value} {m : Nat} {I : Nat → Int32} {A : Nat → Nat → Int32} {L : Nat → Nat → Int64} {rest : Nat → Option jv_C} {z : Nat × Nat} (hw : jv_wide st = true) (hc : (call 9 [.ref m, v0] (jm_H m I A L rest z)).isSome = true) : jv_ev call 28 46 [l0, l1, l2] (v0 :: .ref m :: st) (jm_H m I A L rest z) = jv_ev call 28 49 [l0, l1, l2] ((((call 9 [.ref m, v0] (jm_H m I A L rest z)).getD (none, (jm_H m I A L rest z))).1).toList ++ st) ((call 9 [.ref m, v0] (jm_H m I A L rest z)).getD (none, (jm_H m I A L rest z))).2 := by
  obtain ⟨⟨r, h'⟩, hv⟩ := Option.isSome_iff_exists.mp hc
  rw [hv]
  exact je_virt (y := 9) (as := [v0]) D28_46 rfl (by decide) (by decide) rfl jm_cl hw hv
theorem D28_49 : decode (jt_code 28) 49 = .ok (.putfield 182, 3) := by decide +kernel
theorem E28_49 {call : jv_F} {l0 l1 l2 : Option Value} {v : Int32} {st : List Value} {m : Nat} {I : Nat → Int32} {A : Nat → Nat → Int32} {L : Nat → Nat → Int64} {rest : Nat → Option jv_C} {z : Nat × Nat} : jv_ev call 28 49 [l0, l1, l2] (.int v :: .ref m :: st) (jm_H m I A L rest z) = jv_ev call 28 52 [l0, l1, l2] st (jm_H m (upd I 34 v) A L rest z) := je_put D28_49 rfl (by decide) (by decide) jm_p34
theorem D28_52 : decode (jt_code 28) 52 = .ok (.aload_n 0, 1) := by decide +kernel
theorem E28_52 {call : jv_F} {l1 l2 : Option Value} {a : Nat} {st : List Value} {h : jv_H} : jv_ev call 28 52 [some (.ref a), l1, l2] st h = jv_ev call 28 53 [some (.ref a), l1, l2] (.ref a :: st) h := je_aload_n (r := some a) D28_52 rfl rfl
theorem D28_53 : decode (jt_code 28) 53 = .ok (.getfield 85, 3) := by decide +kernel
theorem E28_53 {call : jv_F} {l0 l1 l2 : Option Value}  {st : List Value} {m : Nat} {I : Nat → Int32} {A : Nat → Nat → Int32} {L : Nat → Nat → Int64} {rest : Nat → Option jv_C} {z : Nat × Nat} : jv_ev call 28 53 [l0, l1, l2] (.ref m :: st) (jm_H m I A L rest z) = jv_ev call 28 56 [l0, l1, l2] (.ref (m + 24) :: st) (jm_H m I A L rest z) := je_get D28_53 rfl (by decide) jm_g28
theorem D28_56 : decode (jt_code 28) 56 = .ok (.aload_n 0, 1) := by decide +kernel
theorem E28_56 {call : jv_F} {l1 l2 : Option Value} {a : Nat} {st : List Value} {h : jv_H} : jv_ev call 28 56 [some (.ref a), l1, l2] st h = jv_ev call 28 57 [some (.ref a), l1, l2] (.ref a :: st) h := je_aload_n (r := some a) D28_56 rfl rfl
theorem D28_57 : decode (jt_code 28) 57 = .ok (.getfield 182, 3) := by decide +kernel
theorem E28_57 {call : jv_F} {l0 l1 l2 : Option Value}  {st : List Value} {m : Nat} {I : Nat → Int32} {A : Nat → Nat → Int32} {L : Nat → Nat → Int64} {rest : Nat → Option jv_C} {z : Nat × Nat} : jv_ev call 28 57 [l0, l1, l2] (.ref m :: st) (jm_H m I A L rest z) = jv_ev call 28 60 [l0, l1, l2] (.int (I 34) :: st) (jm_H m I A L rest z) := je_get D28_57 rfl (by decide) jm_g34
theorem D28_60 : decode (jt_code 28) 60 = .ok (.iconst (-1), 1) := by decide +kernel
theorem E28_60 {call : jv_F} {l0 l1 l2 : Option Value}  {st : List Value} {h : jv_H} : jv_ev call 28 60 [l0, l1, l2] st h = jv_ev call 28 61 [l0, l1, l2] (.int (-1) :: st) h := je_iconst D28_60 rfl (by decide)
theorem D28_61 : decode (jt_code 28) 61 = .ok (.iastore, 1) := by decide +kernel
theorem E28_61 {call : jv_F} {l0 l1 l2 : Option Value} {i : Nat} {v : Int32} {st : List Value} {m : Nat} {I : Nat → Int32} {A : Nat → Nat → Int32} {L : Nat → Nat → Int64} {rest : Nat → Option jv_C} {z : Nat × Nat} (hi : i < 64) : jv_ev call 28 61 [l0, l1, l2] (.int v :: .int (nI i) :: .ref (m + 24) :: st) (jm_H m I A L rest z) = jv_ev call 28 62 [l0, l1, l2] st (jm_H m I (va_up A 28 (upd (A 28) i v)) L rest z) := je_iast D28_61 rfl (jm_s28 hi)
theorem D28_62 : decode (jt_code 28) 62 = .ok (.aload_n 0, 1) := by decide +kernel
theorem E28_62 {call : jv_F} {l1 l2 : Option Value} {a : Nat} {st : List Value} {h : jv_H} : jv_ev call 28 62 [some (.ref a), l1, l2] st h = jv_ev call 28 63 [some (.ref a), l1, l2] (.ref a :: st) h := je_aload_n (r := some a) D28_62 rfl rfl
theorem D28_63 : decode (jt_code 28) 63 = .ok (.dup, 1) := by decide +kernel
theorem E28_63 {call : jv_F} {l0 l1 l2 : Option Value} {a : Nat} {st : List Value} {h : jv_H} : jv_ev call 28 63 [l0, l1, l2] (.ref a :: st) h = jv_ev call 28 64 [l0, l1, l2] (.ref a :: .ref a :: st) h := je_dup D28_63 rfl rfl
theorem E28_63i {call : jv_F} {l0 l1 l2 : Option Value} {x : Int32} {st : List Value} {h : jv_H} : jv_ev call 28 63 [l0, l1, l2] (.int x :: st) h = jv_ev call 28 64 [l0, l1, l2] (.int x :: .int x :: st) h := je_dup D28_63 rfl rfl
theorem D28_64 : decode (jt_code 28) 64 = .ok (.getfield 207, 3) := by decide +kernel
theorem E28_64 {call : jv_F} {l0 l1 l2 : Option Value}  {st : List Value} {m : Nat} {I : Nat → Int32} {A : Nat → Nat → Int32} {L : Nat → Nat → Int64} {rest : Nat → Option jv_C} {z : Nat × Nat} : jv_ev call 28 64 [l0, l1, l2] (.ref m :: st) (jm_H m I A L rest z) = jv_ev call 28 67 [l0, l1, l2] (.int (I 38) :: st) (jm_H m I A L rest z) := je_get D28_64 rfl (by decide) jm_g38
theorem D28_67 : decode (jt_code 28) 67 = .ok (.iconst 1, 1) := by decide +kernel
theorem E28_67 {call : jv_F} {l0 l1 l2 : Option Value}  {st : List Value} {h : jv_H} : jv_ev call 28 67 [l0, l1, l2] st h = jv_ev call 28 68 [l0, l1, l2] (.int (nI 1) :: st) h := je_iconst D28_67 rfl (by decide)
theorem D28_68 : decode (jt_code 28) 68 = .ok (.iadd, 1) := by decide +kernel
theorem E28_68 {call : jv_F} {l0 l1 l2 : Option Value} {x y : Int32} {st : List Value} {h : jv_H} : jv_ev call 28 68 [l0, l1, l2] (.int y :: .int x :: st) h = jv_ev call 28 69 [l0, l1, l2] (.int (x + y) :: st) h := je_b2 (f := fun x y => x + y) D28_68 rfl (fun _ => rfl)
theorem D28_69 : decode (jt_code 28) 69 = .ok (.putfield 207, 3) := by decide +kernel
theorem E28_69 {call : jv_F} {l0 l1 l2 : Option Value} {v : Int32} {st : List Value} {m : Nat} {I : Nat → Int32} {A : Nat → Nat → Int32} {L : Nat → Nat → Int64} {rest : Nat → Option jv_C} {z : Nat × Nat} : jv_ev call 28 69 [l0, l1, l2] (.int v :: .ref m :: st) (jm_H m I A L rest z) = jv_ev call 28 72 [l0, l1, l2] st (jm_H m (upd I 38 v) A L rest z) := je_put D28_69 rfl (by decide) (by decide) jm_p38
theorem D28_72 : decode (jt_code 28) 72 = .ok (.goto 79, 3) := by decide +kernel
theorem E28_72 {call : jv_F} {l0 l1 l2 : Option Value}  {st : List Value} {h : jv_H} : jv_ev call 28 72 [l0, l1, l2] st h = jv_ev call 28 151 [l0, l1, l2] st h := je_goto D28_72 (by decide)
theorem D28_75 : decode (jt_code 28) 75 = .ok (.aload_n 0, 1) := by decide +kernel
theorem E28_75 {call : jv_F} {l1 l2 : Option Value} {a : Nat} {st : List Value} {h : jv_H} : jv_ev call 28 75 [some (.ref a), l1, l2] st h = jv_ev call 28 76 [some (.ref a), l1, l2] (.ref a :: st) h := je_aload_n (r := some a) D28_75 rfl rfl
theorem D28_76 : decode (jt_code 28) 76 = .ok (.iconst (-1), 1) := by decide +kernel
theorem E28_76 {call : jv_F} {l0 l1 l2 : Option Value}  {st : List Value} {h : jv_H} : jv_ev call 28 76 [l0, l1, l2] st h = jv_ev call 28 77 [l0, l1, l2] (.int (-1) :: st) h := je_iconst D28_76 rfl (by decide)
theorem D28_77 : decode (jt_code 28) 77 = .ok (.putfield 182, 3) := by decide +kernel
theorem E28_77 {call : jv_F} {l0 l1 l2 : Option Value} {v : Int32} {st : List Value} {m : Nat} {I : Nat → Int32} {A : Nat → Nat → Int32} {L : Nat → Nat → Int64} {rest : Nat → Option jv_C} {z : Nat × Nat} : jv_ev call 28 77 [l0, l1, l2] (.int v :: .ref m :: st) (jm_H m I A L rest z) = jv_ev call 28 80 [l0, l1, l2] st (jm_H m (upd I 34 v) A L rest z) := je_put D28_77 rfl (by decide) (by decide) jm_p34
theorem D28_80 : decode (jt_code 28) 80 = .ok (.iconst 0, 1) := by decide +kernel
theorem E28_80 {call : jv_F} {l0 l1 l2 : Option Value}  {st : List Value} {h : jv_H} : jv_ev call 28 80 [l0, l1, l2] st h = jv_ev call 28 81 [l0, l1, l2] (.int (nI 0) :: st) h := je_iconst D28_80 rfl (by decide)
theorem D28_81 : decode (jt_code 28) 81 = .ok (.istore_n 2, 1) := by decide +kernel
theorem E28_81 {call : jv_F} {l0 l1 l2 : Option Value} {x : Int32} {st : List Value} {h : jv_H} (hk : ¬ jv_is2 (some l1) = true) : jv_ev call 28 81 [l0, l1, l2] (.int x :: st) h = jv_ev call 28 82 [l0, l1, some (.int x)] st h := je_istore_n D28_81 rfl (Nat.le_of_ble_eq_true rfl) (by show jv_st1 _ 2 _ = _; simp only [jv_st1, jv_kill, List.getElem?_cons_succ, List.getElem?_cons_zero, hk, if_false]; rfl)
theorem D28_82 : decode (jt_code 28) 82 = .ok (.iload_n 2, 1) := by decide +kernel
theorem E28_82 {call : jv_F} {l0 l1 : Option Value} {x : Int32} {st : List Value} {h : jv_H} : jv_ev call 28 82 [l0, l1, some (.int x)] st h = jv_ev call 28 83 [l0, l1, some (.int x)] (.int x :: st) h := je_iload_n D28_82 rfl rfl
theorem D28_83 : decode (jt_code 28) 83 = .ok (.bipush 64, 2) := by decide +kernel
theorem E28_83 {call : jv_F} {l0 l1 l2 : Option Value}  {st : List Value} {h : jv_H} : jv_ev call 28 83 [l0, l1, l2] st h = jv_ev call 28 85 [l0, l1, l2] (.int (nI 64) :: st) h := je_bipush D28_83 rfl (by decide)
theorem D28_85 : decode (jt_code 28) 85 = .ok (.if_icmp .ge 46, 3) := by decide +kernel
theorem E28_85 {call : jv_F} {l0 l1 l2 : Option Value} {x y : Int32} {st : List Value} {h : jv_H} : jv_ev call 28 85 [l0, l1, l2] (.int y :: .int x :: st) h = if y ≤ x then jv_ev call 28 131 [l0, l1, l2] st h else jv_ev call 28 88 [l0, l1, l2] st h := je_icmp D28_85 (by decide) rfl rfl
theorem D28_88 : decode (jt_code 28) 88 = .ok (.aload_n 0, 1) := by decide +kernel
theorem E28_88 {call : jv_F} {l1 l2 : Option Value} {a : Nat} {st : List Value} {h : jv_H} : jv_ev call 28 88 [some (.ref a), l1, l2] st h = jv_ev call 28 89 [some (.ref a), l1, l2] (.ref a :: st) h := je_aload_n (r := some a) D28_88 rfl rfl
theorem D28_89 : decode (jt_code 28) 89 = .ok (.getfield 85, 3) := by decide +kernel
theorem E28_89 {call : jv_F} {l0 l1 l2 : Option Value}  {st : List Value} {m : Nat} {I : Nat → Int32} {A : Nat → Nat → Int32} {L : Nat → Nat → Int64} {rest : Nat → Option jv_C} {z : Nat × Nat} : jv_ev call 28 89 [l0, l1, l2] (.ref m :: st) (jm_H m I A L rest z) = jv_ev call 28 92 [l0, l1, l2] (.ref (m + 24) :: st) (jm_H m I A L rest z) := je_get D28_89 rfl (by decide) jm_g28
theorem D28_92 : decode (jt_code 28) 92 = .ok (.iload_n 2, 1) := by decide +kernel
theorem E28_92 {call : jv_F} {l0 l1 : Option Value} {x : Int32} {st : List Value} {h : jv_H} : jv_ev call 28 92 [l0, l1, some (.int x)] st h = jv_ev call 28 93 [l0, l1, some (.int x)] (.int x :: st) h := je_iload_n D28_92 rfl rfl
theorem D28_93 : decode (jt_code 28) 93 = .ok (.iaload, 1) := by decide +kernel
theorem E28_93 {call : jv_F} {l0 l1 l2 : Option Value} {i : Nat} {st : List Value} {m : Nat} {I : Nat → Int32} {A : Nat → Nat → Int32} {L : Nat → Nat → Int64} {rest : Nat → Option jv_C} {z : Nat × Nat} (hi : i < 64) : jv_ev call 28 93 [l0, l1, l2] (.int (nI i) :: .ref (m + 24) :: st) (jm_H m I A L rest z) = jv_ev call 28 94 [l0, l1, l2] (.int (A 28 i) :: st) (jm_H m I A L rest z) := je_iald D28_93 rfl (jm_l28 hi)
theorem D28_94 : decode (jt_code 28) 94 = .ok (.ifCond .ge 31, 3) := by decide +kernel
theorem E28_94 {call : jv_F} {l0 l1 l2 : Option Value} {x : Int32} {st : List Value} {h : jv_H} : jv_ev call 28 94 [l0, l1, l2] (.int x :: st) h = if 0 ≤ x then jv_ev call 28 125 [l0, l1, l2] st h else jv_ev call 28 97 [l0, l1, l2] st h := je_ifc D28_94 (by decide) rfl rfl
theorem D28_97 : decode (jt_code 28) 97 = .ok (.aload_n 0, 1) := by decide +kernel
theorem E28_97 {call : jv_F} {l1 l2 : Option Value} {a : Nat} {st : List Value} {h : jv_H} : jv_ev call 28 97 [some (.ref a), l1, l2] st h = jv_ev call 28 98 [some (.ref a), l1, l2] (.ref a :: st) h := je_aload_n (r := some a) D28_97 rfl rfl
theorem D28_98 : decode (jt_code 28) 98 = .ok (.getfield 182, 3) := by decide +kernel
theorem E28_98 {call : jv_F} {l0 l1 l2 : Option Value}  {st : List Value} {m : Nat} {I : Nat → Int32} {A : Nat → Nat → Int32} {L : Nat → Nat → Int64} {rest : Nat → Option jv_C} {z : Nat × Nat} : jv_ev call 28 98 [l0, l1, l2] (.ref m :: st) (jm_H m I A L rest z) = jv_ev call 28 101 [l0, l1, l2] (.int (I 34) :: st) (jm_H m I A L rest z) := je_get D28_98 rfl (by decide) jm_g34
theorem D28_101 : decode (jt_code 28) 101 = .ok (.ifCond .lt 19, 3) := by decide +kernel
theorem E28_101 {call : jv_F} {l0 l1 l2 : Option Value} {x : Int32} {st : List Value} {h : jv_H} : jv_ev call 28 101 [l0, l1, l2] (.int x :: st) h = if x < 0 then jv_ev call 28 120 [l0, l1, l2] st h else jv_ev call 28 104 [l0, l1, l2] st h := je_ifc D28_101 (by decide) rfl rfl
theorem D28_104 : decode (jt_code 28) 104 = .ok (.aload_n 0, 1) := by decide +kernel
theorem E28_104 {call : jv_F} {l1 l2 : Option Value} {a : Nat} {st : List Value} {h : jv_H} : jv_ev call 28 104 [some (.ref a), l1, l2] st h = jv_ev call 28 105 [some (.ref a), l1, l2] (.ref a :: st) h := je_aload_n (r := some a) D28_104 rfl rfl
theorem D28_105 : decode (jt_code 28) 105 = .ok (.iload_n 2, 1) := by decide +kernel
theorem E28_105 {call : jv_F} {l0 l1 : Option Value} {x : Int32} {st : List Value} {h : jv_H} : jv_ev call 28 105 [l0, l1, some (.int x)] st h = jv_ev call 28 106 [l0, l1, some (.int x)] (.int x :: st) h := je_iload_n D28_105 rfl rfl
theorem D28_106 : decode (jt_code 28) 106 = .ok (.invokevirtual 210, 3) := by decide +kernel
theorem E28_106 {call : jv_F} {l0 l1 l2 : Option Value} {v0 : Value}  {st : List Value} {m : Nat} {I : Nat → Int32} {A : Nat → Nat → Int32} {L : Nat → Nat → Int64} {rest : Nat → Option jv_C} {z : Nat × Nat} (hw : jv_wide st = true) (hc : (call 27 [.ref m, v0] (jm_H m I A L rest z)).isSome = true) : jv_ev call 28 106 [l0, l1, l2] (v0 :: .ref m :: st) (jm_H m I A L rest z) = jv_ev call 28 109 [l0, l1, l2] ((((call 27 [.ref m, v0] (jm_H m I A L rest z)).getD (none, (jm_H m I A L rest z))).1).toList ++ st) ((call 27 [.ref m, v0] (jm_H m I A L rest z)).getD (none, (jm_H m I A L rest z))).2 := by
  obtain ⟨⟨r, h'⟩, hv⟩ := Option.isSome_iff_exists.mp hc
  rw [hv]
  exact je_virt (y := 27) (as := [v0]) D28_106 rfl (by decide) (by decide) rfl jm_cl hw hv
theorem D28_109 : decode (jt_code 28) 109 = .ok (.aload_n 0, 1) := by decide +kernel
theorem E28_109 {call : jv_F} {l1 l2 : Option Value} {a : Nat} {st : List Value} {h : jv_H} : jv_ev call 28 109 [some (.ref a), l1, l2] st h = jv_ev call 28 110 [some (.ref a), l1, l2] (.ref a :: st) h := je_aload_n (r := some a) D28_109 rfl rfl
theorem D28_110 : decode (jt_code 28) 110 = .ok (.aload_n 0, 1) := by decide +kernel
theorem E28_110 {call : jv_F} {l1 l2 : Option Value} {a : Nat} {st : List Value} {h : jv_H} : jv_ev call 28 110 [some (.ref a), l1, l2] st h = jv_ev call 28 111 [some (.ref a), l1, l2] (.ref a :: st) h := je_aload_n (r := some a) D28_110 rfl rfl
theorem D28_111 : decode (jt_code 28) 111 = .ok (.getfield 182, 3) := by decide +kernel
theorem E28_111 {call : jv_F} {l0 l1 l2 : Option Value}  {st : List Value} {m : Nat} {I : Nat → Int32} {A : Nat → Nat → Int32} {L : Nat → Nat → Int64} {rest : Nat → Option jv_C} {z : Nat × Nat} : jv_ev call 28 111 [l0, l1, l2] (.ref m :: st) (jm_H m I A L rest z) = jv_ev call 28 114 [l0, l1, l2] (.int (I 34) :: st) (jm_H m I A L rest z) := je_get D28_111 rfl (by decide) jm_g34
theorem D28_114 : decode (jt_code 28) 114 = .ok (.invokevirtual 210, 3) := by decide +kernel
theorem E28_114 {call : jv_F} {l0 l1 l2 : Option Value} {v0 : Value}  {st : List Value} {m : Nat} {I : Nat → Int32} {A : Nat → Nat → Int32} {L : Nat → Nat → Int64} {rest : Nat → Option jv_C} {z : Nat × Nat} (hw : jv_wide st = true) (hc : (call 27 [.ref m, v0] (jm_H m I A L rest z)).isSome = true) : jv_ev call 28 114 [l0, l1, l2] (v0 :: .ref m :: st) (jm_H m I A L rest z) = jv_ev call 28 117 [l0, l1, l2] ((((call 27 [.ref m, v0] (jm_H m I A L rest z)).getD (none, (jm_H m I A L rest z))).1).toList ++ st) ((call 27 [.ref m, v0] (jm_H m I A L rest z)).getD (none, (jm_H m I A L rest z))).2 := by
  obtain ⟨⟨r, h'⟩, hv⟩ := Option.isSome_iff_exists.mp hc
  rw [hv]
  exact je_virt (y := 27) (as := [v0]) D28_114 rfl (by decide) (by decide) rfl jm_cl hw hv
theorem D28_117 : decode (jt_code 28) 117 = .ok (.if_icmp .ge 8, 3) := by decide +kernel
theorem E28_117 {call : jv_F} {l0 l1 l2 : Option Value} {x y : Int32} {st : List Value} {h : jv_H} : jv_ev call 28 117 [l0, l1, l2] (.int y :: .int x :: st) h = if y ≤ x then jv_ev call 28 125 [l0, l1, l2] st h else jv_ev call 28 120 [l0, l1, l2] st h := je_icmp D28_117 (by decide) rfl rfl
theorem D28_120 : decode (jt_code 28) 120 = .ok (.aload_n 0, 1) := by decide +kernel
theorem E28_120 {call : jv_F} {l1 l2 : Option Value} {a : Nat} {st : List Value} {h : jv_H} : jv_ev call 28 120 [some (.ref a), l1, l2] st h = jv_ev call 28 121 [some (.ref a), l1, l2] (.ref a :: st) h := je_aload_n (r := some a) D28_120 rfl rfl
theorem D28_121 : decode (jt_code 28) 121 = .ok (.iload_n 2, 1) := by decide +kernel
theorem E28_121 {call : jv_F} {l0 l1 : Option Value} {x : Int32} {st : List Value} {h : jv_H} : jv_ev call 28 121 [l0, l1, some (.int x)] st h = jv_ev call 28 122 [l0, l1, some (.int x)] (.int x :: st) h := je_iload_n D28_121 rfl rfl
theorem D28_122 : decode (jt_code 28) 122 = .ok (.putfield 182, 3) := by decide +kernel
theorem E28_122 {call : jv_F} {l0 l1 l2 : Option Value} {v : Int32} {st : List Value} {m : Nat} {I : Nat → Int32} {A : Nat → Nat → Int32} {L : Nat → Nat → Int64} {rest : Nat → Option jv_C} {z : Nat × Nat} : jv_ev call 28 122 [l0, l1, l2] (.int v :: .ref m :: st) (jm_H m I A L rest z) = jv_ev call 28 125 [l0, l1, l2] st (jm_H m (upd I 34 v) A L rest z) := je_put D28_122 rfl (by decide) (by decide) jm_p34
theorem D28_125 : decode (jt_code 28) 125 = .ok (.iinc 2 1, 3) := by decide +kernel
theorem E28_125 {call : jv_F} {l0 l1 : Option Value} {x : Int32} {st : List Value} {h : jv_H} (hk : ¬ jv_is2 (some l1) = true) : jv_ev call 28 125 [l0, l1, some (.int x)] st h = jv_ev call 28 128 [l0, l1, some (.int (x + (nI 1)))] st h := je_iinc D28_125 rfl rfl (v := x + (nI 1)) (by rfl) (by show jv_st1 _ 2 _ = _; simp only [jv_st1, jv_kill, List.getElem?_cons_succ, List.getElem?_cons_zero, hk, if_false]; rfl)
theorem D28_128 : decode (jt_code 28) 128 = .ok (.goto (-46), 3) := by decide +kernel
theorem E28_128 {call : jv_F} {l0 l1 l2 : Option Value}  {st : List Value} {h : jv_H} : jv_ev call 28 128 [l0, l1, l2] st h = jv_ev call 28 82 [l0, l1, l2] st h := je_goto D28_128 (by decide)
theorem D28_131 : decode (jt_code 28) 131 = .ok (.aload_n 0, 1) := by decide +kernel
theorem E28_131 {call : jv_F} {l1 l2 : Option Value} {a : Nat} {st : List Value} {h : jv_H} : jv_ev call 28 131 [some (.ref a), l1, l2] st h = jv_ev call 28 132 [some (.ref a), l1, l2] (.ref a :: st) h := je_aload_n (r := some a) D28_131 rfl rfl
theorem D28_132 : decode (jt_code 28) 132 = .ok (.getfield 85, 3) := by decide +kernel
theorem E28_132 {call : jv_F} {l0 l1 l2 : Option Value}  {st : List Value} {m : Nat} {I : Nat → Int32} {A : Nat → Nat → Int32} {L : Nat → Nat → Int64} {rest : Nat → Option jv_C} {z : Nat × Nat} : jv_ev call 28 132 [l0, l1, l2] (.ref m :: st) (jm_H m I A L rest z) = jv_ev call 28 135 [l0, l1, l2] (.ref (m + 24) :: st) (jm_H m I A L rest z) := je_get D28_132 rfl (by decide) jm_g28
theorem D28_135 : decode (jt_code 28) 135 = .ok (.aload_n 0, 1) := by decide +kernel
theorem E28_135 {call : jv_F} {l1 l2 : Option Value} {a : Nat} {st : List Value} {h : jv_H} : jv_ev call 28 135 [some (.ref a), l1, l2] st h = jv_ev call 28 136 [some (.ref a), l1, l2] (.ref a :: st) h := je_aload_n (r := some a) D28_135 rfl rfl
theorem D28_136 : decode (jt_code 28) 136 = .ok (.getfield 182, 3) := by decide +kernel
theorem E28_136 {call : jv_F} {l0 l1 l2 : Option Value}  {st : List Value} {m : Nat} {I : Nat → Int32} {A : Nat → Nat → Int32} {L : Nat → Nat → Int64} {rest : Nat → Option jv_C} {z : Nat × Nat} : jv_ev call 28 136 [l0, l1, l2] (.ref m :: st) (jm_H m I A L rest z) = jv_ev call 28 139 [l0, l1, l2] (.int (I 34) :: st) (jm_H m I A L rest z) := je_get D28_136 rfl (by decide) jm_g34
theorem D28_139 : decode (jt_code 28) 139 = .ok (.iload_n 1, 1) := by decide +kernel
theorem E28_139 {call : jv_F} {l0 l2 : Option Value} {x : Int32} {st : List Value} {h : jv_H} : jv_ev call 28 139 [l0, some (.int x), l2] st h = jv_ev call 28 140 [l0, some (.int x), l2] (.int x :: st) h := je_iload_n D28_139 rfl rfl
theorem D28_140 : decode (jt_code 28) 140 = .ok (.iastore, 1) := by decide +kernel
theorem E28_140 {call : jv_F} {l0 l1 l2 : Option Value} {i : Nat} {v : Int32} {st : List Value} {m : Nat} {I : Nat → Int32} {A : Nat → Nat → Int32} {L : Nat → Nat → Int64} {rest : Nat → Option jv_C} {z : Nat × Nat} (hi : i < 64) : jv_ev call 28 140 [l0, l1, l2] (.int v :: .int (nI i) :: .ref (m + 24) :: st) (jm_H m I A L rest z) = jv_ev call 28 141 [l0, l1, l2] st (jm_H m I (va_up A 28 (upd (A 28) i v)) L rest z) := je_iast D28_140 rfl (jm_s28 hi)
theorem D28_141 : decode (jt_code 28) 141 = .ok (.aload_n 0, 1) := by decide +kernel
theorem E28_141 {call : jv_F} {l1 l2 : Option Value} {a : Nat} {st : List Value} {h : jv_H} : jv_ev call 28 141 [some (.ref a), l1, l2] st h = jv_ev call 28 142 [some (.ref a), l1, l2] (.ref a :: st) h := je_aload_n (r := some a) D28_141 rfl rfl
theorem D28_142 : decode (jt_code 28) 142 = .ok (.dup, 1) := by decide +kernel
theorem E28_142 {call : jv_F} {l0 l1 l2 : Option Value} {a : Nat} {st : List Value} {h : jv_H} : jv_ev call 28 142 [l0, l1, l2] (.ref a :: st) h = jv_ev call 28 143 [l0, l1, l2] (.ref a :: .ref a :: st) h := je_dup D28_142 rfl rfl
theorem E28_142i {call : jv_F} {l0 l1 l2 : Option Value} {x : Int32} {st : List Value} {h : jv_H} : jv_ev call 28 142 [l0, l1, l2] (.int x :: st) h = jv_ev call 28 143 [l0, l1, l2] (.int x :: .int x :: st) h := je_dup D28_142 rfl rfl
theorem D28_143 : decode (jt_code 28) 143 = .ok (.getfield 213, 3) := by decide +kernel
theorem E28_143 {call : jv_F} {l0 l1 l2 : Option Value}  {st : List Value} {m : Nat} {I : Nat → Int32} {A : Nat → Nat → Int32} {L : Nat → Nat → Int64} {rest : Nat → Option jv_C} {z : Nat × Nat} : jv_ev call 28 143 [l0, l1, l2] (.ref m :: st) (jm_H m I A L rest z) = jv_ev call 28 146 [l0, l1, l2] (.int (I 39) :: st) (jm_H m I A L rest z) := je_get D28_143 rfl (by decide) jm_g39
theorem D28_146 : decode (jt_code 28) 146 = .ok (.iconst 1, 1) := by decide +kernel
theorem E28_146 {call : jv_F} {l0 l1 l2 : Option Value}  {st : List Value} {h : jv_H} : jv_ev call 28 146 [l0, l1, l2] st h = jv_ev call 28 147 [l0, l1, l2] (.int (nI 1) :: st) h := je_iconst D28_146 rfl (by decide)
theorem D28_147 : decode (jt_code 28) 147 = .ok (.iadd, 1) := by decide +kernel
theorem E28_147 {call : jv_F} {l0 l1 l2 : Option Value} {x y : Int32} {st : List Value} {h : jv_H} : jv_ev call 28 147 [l0, l1, l2] (.int y :: .int x :: st) h = jv_ev call 28 148 [l0, l1, l2] (.int (x + y) :: st) h := je_b2 (f := fun x y => x + y) D28_147 rfl (fun _ => rfl)
theorem D28_148 : decode (jt_code 28) 148 = .ok (.putfield 213, 3) := by decide +kernel
theorem E28_148 {call : jv_F} {l0 l1 l2 : Option Value} {v : Int32} {st : List Value} {m : Nat} {I : Nat → Int32} {A : Nat → Nat → Int32} {L : Nat → Nat → Int64} {rest : Nat → Option jv_C} {z : Nat × Nat} : jv_ev call 28 148 [l0, l1, l2] (.int v :: .ref m :: st) (jm_H m I A L rest z) = jv_ev call 28 151 [l0, l1, l2] st (jm_H m (upd I 39 v) A L rest z) := je_put D28_148 rfl (by decide) (by decide) jm_p39
theorem D28_151 : decode (jt_code 28) 151 = .ok (.aload_n 0, 1) := by decide +kernel
theorem E28_151 {call : jv_F} {l1 l2 : Option Value} {a : Nat} {st : List Value} {h : jv_H} : jv_ev call 28 151 [some (.ref a), l1, l2] st h = jv_ev call 28 152 [some (.ref a), l1, l2] (.ref a :: st) h := je_aload_n (r := some a) D28_151 rfl rfl
theorem D28_152 : decode (jt_code 28) 152 = .ok (.aload_n 0, 1) := by decide +kernel
theorem E28_152 {call : jv_F} {l1 l2 : Option Value} {a : Nat} {st : List Value} {h : jv_H} : jv_ev call 28 152 [some (.ref a), l1, l2] st h = jv_ev call 28 153 [some (.ref a), l1, l2] (.ref a :: st) h := je_aload_n (r := some a) D28_152 rfl rfl
theorem D28_153 : decode (jt_code 28) 153 = .ok (.aload_n 0, 1) := by decide +kernel
theorem E28_153 {call : jv_F} {l1 l2 : Option Value} {a : Nat} {st : List Value} {h : jv_H} : jv_ev call 28 153 [some (.ref a), l1, l2] st h = jv_ev call 28 154 [some (.ref a), l1, l2] (.ref a :: st) h := je_aload_n (r := some a) D28_153 rfl rfl
theorem D28_154 : decode (jt_code 28) 154 = .ok (.getfield 182, 3) := by decide +kernel
theorem E28_154 {call : jv_F} {l0 l1 l2 : Option Value}  {st : List Value} {m : Nat} {I : Nat → Int32} {A : Nat → Nat → Int32} {L : Nat → Nat → Int64} {rest : Nat → Option jv_C} {z : Nat × Nat} : jv_ev call 28 154 [l0, l1, l2] (.ref m :: st) (jm_H m I A L rest z) = jv_ev call 28 157 [l0, l1, l2] (.int (I 34) :: st) (jm_H m I A L rest z) := je_get D28_154 rfl (by decide) jm_g34
theorem D28_157 : decode (jt_code 28) 157 = .ok (.invokevirtual 210, 3) := by decide +kernel
theorem E28_157 {call : jv_F} {l0 l1 l2 : Option Value} {v0 : Value}  {st : List Value} {m : Nat} {I : Nat → Int32} {A : Nat → Nat → Int32} {L : Nat → Nat → Int64} {rest : Nat → Option jv_C} {z : Nat × Nat} (hw : jv_wide st = true) (hc : (call 27 [.ref m, v0] (jm_H m I A L rest z)).isSome = true) : jv_ev call 28 157 [l0, l1, l2] (v0 :: .ref m :: st) (jm_H m I A L rest z) = jv_ev call 28 160 [l0, l1, l2] ((((call 27 [.ref m, v0] (jm_H m I A L rest z)).getD (none, (jm_H m I A L rest z))).1).toList ++ st) ((call 27 [.ref m, v0] (jm_H m I A L rest z)).getD (none, (jm_H m I A L rest z))).2 := by
  obtain ⟨⟨r, h'⟩, hv⟩ := Option.isSome_iff_exists.mp hc
  rw [hv]
  exact je_virt (y := 27) (as := [v0]) D28_157 rfl (by decide) (by decide) rfl jm_cl hw hv
theorem D28_160 : decode (jt_code 28) 160 = .ok (.iconst 2, 1) := by decide +kernel
theorem E28_160 {call : jv_F} {l0 l1 l2 : Option Value}  {st : List Value} {h : jv_H} : jv_ev call 28 160 [l0, l1, l2] st h = jv_ev call 28 161 [l0, l1, l2] (.int (nI 2) :: st) h := je_iconst D28_160 rfl (by decide)
theorem D28_161 : decode (jt_code 28) 161 = .ok (.iadd, 1) := by decide +kernel
theorem E28_161 {call : jv_F} {l0 l1 l2 : Option Value} {x y : Int32} {st : List Value} {h : jv_H} : jv_ev call 28 161 [l0, l1, l2] (.int y :: .int x :: st) h = jv_ev call 28 162 [l0, l1, l2] (.int (x + y) :: st) h := je_b2 (f := fun x y => x + y) D28_161 rfl (fun _ => rfl)
theorem D28_162 : decode (jt_code 28) 162 = .ok (.putfield 145, 3) := by decide +kernel
theorem E28_162 {call : jv_F} {l0 l1 l2 : Option Value} {v : Int32} {st : List Value} {m : Nat} {I : Nat → Int32} {A : Nat → Nat → Int32} {L : Nat → Nat → Int64} {rest : Nat → Option jv_C} {z : Nat × Nat} : jv_ev call 28 162 [l0, l1, l2] (.int v :: .ref m :: st) (jm_H m I A L rest z) = jv_ev call 28 165 [l0, l1, l2] st (jm_H m (upd I 35 v) A L rest z) := je_put D28_162 rfl (by decide) (by decide) jm_p35
theorem D28_165 : decode (jt_code 28) 165 = .ok (.return_, 1) := by decide +kernel
theorem E28_165 {call : jv_F} {l0 l1 l2 : Option Value}  {h : jv_H} : jv_ev call 28 165 [l0, l1, l2] [] h = some (none, h) := je_ret D28_165 rfl
/-! method 29: DrumMachineModel.next -/
theorem N29 {d : Nat} {b : Nat} {h : jv_H} : jv_run (d + 1) 29 [.ref b] h = jv_ev (jv_run d) 29 0 [some (.ref b), none, none] [] h := jv_run_eq (Nat.le_of_ble_eq_true rfl) rfl
theorem D29_0 : decode (jt_code 29) 0 = .ok (.aload_n 0, 1) := by decide +kernel
theorem E29_0 {call : jv_F} {l1 l2 : Option Value} {a : Nat} {st : List Value} {h : jv_H} : jv_ev call 29 0 [some (.ref a), l1, l2] st h = jv_ev call 29 1 [some (.ref a), l1, l2] (.ref a :: st) h := je_aload_n (r := some a) D29_0 rfl rfl
theorem D29_1 : decode (jt_code 29) 1 = .ok (.getfield 94, 3) := by decide +kernel
theorem E29_1 {call : jv_F} {l0 l1 l2 : Option Value}  {st : List Value} {m : Nat} {I : Nat → Int32} {A : Nat → Nat → Int32} {L : Nat → Nat → Int64} {rest : Nat → Option jv_C} {z : Nat × Nat} : jv_ev call 29 1 [l0, l1, l2] (.ref m :: st) (jm_H m I A L rest z) = jv_ev call 29 4 [l0, l1, l2] (.int (I 37) :: st) (jm_H m I A L rest z) := je_get D29_1 rfl (by decide) jm_g37
theorem D29_4 : decode (jt_code 29) 4 = .ok (.ifCond .lt 30, 3) := by decide +kernel
theorem E29_4 {call : jv_F} {l0 l1 l2 : Option Value} {x : Int32} {st : List Value} {h : jv_H} : jv_ev call 29 4 [l0, l1, l2] (.int x :: st) h = if x < 0 then jv_ev call 29 34 [l0, l1, l2] st h else jv_ev call 29 7 [l0, l1, l2] st h := je_ifc D29_4 (by decide) rfl rfl
theorem D29_7 : decode (jt_code 29) 7 = .ok (.aload_n 0, 1) := by decide +kernel
theorem E29_7 {call : jv_F} {l1 l2 : Option Value} {a : Nat} {st : List Value} {h : jv_H} : jv_ev call 29 7 [some (.ref a), l1, l2] st h = jv_ev call 29 8 [some (.ref a), l1, l2] (.ref a :: st) h := je_aload_n (r := some a) D29_7 rfl rfl
theorem D29_8 : decode (jt_code 29) 8 = .ok (.aload_n 0, 1) := by decide +kernel
theorem E29_8 {call : jv_F} {l1 l2 : Option Value} {a : Nat} {st : List Value} {h : jv_H} : jv_ev call 29 8 [some (.ref a), l1, l2] st h = jv_ev call 29 9 [some (.ref a), l1, l2] (.ref a :: st) h := je_aload_n (r := some a) D29_8 rfl rfl
theorem D29_9 : decode (jt_code 29) 9 = .ok (.getfield 94, 3) := by decide +kernel
theorem E29_9 {call : jv_F} {l0 l1 l2 : Option Value}  {st : List Value} {m : Nat} {I : Nat → Int32} {A : Nat → Nat → Int32} {L : Nat → Nat → Int64} {rest : Nat → Option jv_C} {z : Nat × Nat} : jv_ev call 29 9 [l0, l1, l2] (.ref m :: st) (jm_H m I A L rest z) = jv_ev call 29 12 [l0, l1, l2] (.int (I 37) :: st) (jm_H m I A L rest z) := je_get D29_9 rfl (by decide) jm_g37
theorem D29_12 : decode (jt_code 29) 12 = .ok (.invokevirtual 125, 3) := by decide +kernel
theorem E29_12 {call : jv_F} {l0 l1 l2 : Option Value} {v0 : Value}  {st : List Value} {m : Nat} {I : Nat → Int32} {A : Nat → Nat → Int32} {L : Nat → Nat → Int64} {rest : Nat → Option jv_C} {z : Nat × Nat} (hw : jv_wide st = true) (hc : (call 12 [.ref m, v0] (jm_H m I A L rest z)).isSome = true) : jv_ev call 29 12 [l0, l1, l2] (v0 :: .ref m :: st) (jm_H m I A L rest z) = jv_ev call 29 15 [l0, l1, l2] ((((call 12 [.ref m, v0] (jm_H m I A L rest z)).getD (none, (jm_H m I A L rest z))).1).toList ++ st) ((call 12 [.ref m, v0] (jm_H m I A L rest z)).getD (none, (jm_H m I A L rest z))).2 := by
  obtain ⟨⟨r, h'⟩, hv⟩ := Option.isSome_iff_exists.mp hc
  rw [hv]
  exact je_virt (y := 12) (as := [v0]) D29_12 rfl (by decide) (by decide) rfl jm_cl hw hv
theorem D29_15 : decode (jt_code 29) 15 = .ok (.ifCond .eq 19, 3) := by decide +kernel
theorem E29_15 {call : jv_F} {l0 l1 l2 : Option Value} {x : Int32} {st : List Value} {h : jv_H} : jv_ev call 29 15 [l0, l1, l2] (.int x :: st) h = if x = 0 then jv_ev call 29 34 [l0, l1, l2] st h else jv_ev call 29 18 [l0, l1, l2] st h := je_ifc D29_15 (by decide) rfl rfl
theorem D29_18 : decode (jt_code 29) 18 = .ok (.aload_n 0, 1) := by decide +kernel
theorem E29_18 {call : jv_F} {l1 l2 : Option Value} {a : Nat} {st : List Value} {h : jv_H} : jv_ev call 29 18 [some (.ref a), l1, l2] st h = jv_ev call 29 19 [some (.ref a), l1, l2] (.ref a :: st) h := je_aload_n (r := some a) D29_18 rfl rfl
theorem D29_19 : decode (jt_code 29) 19 = .ok (.aload_n 0, 1) := by decide +kernel
theorem E29_19 {call : jv_F} {l1 l2 : Option Value} {a : Nat} {st : List Value} {h : jv_H} : jv_ev call 29 19 [some (.ref a), l1, l2] st h = jv_ev call 29 20 [some (.ref a), l1, l2] (.ref a :: st) h := je_aload_n (r := some a) D29_19 rfl rfl
theorem D29_20 : decode (jt_code 29) 20 = .ok (.getfield 94, 3) := by decide +kernel
theorem E29_20 {call : jv_F} {l0 l1 l2 : Option Value}  {st : List Value} {m : Nat} {I : Nat → Int32} {A : Nat → Nat → Int32} {L : Nat → Nat → Int64} {rest : Nat → Option jv_C} {z : Nat × Nat} : jv_ev call 29 20 [l0, l1, l2] (.ref m :: st) (jm_H m I A L rest z) = jv_ev call 29 23 [l0, l1, l2] (.int (I 37) :: st) (jm_H m I A L rest z) := je_get D29_20 rfl (by decide) jm_g37
theorem D29_23 : decode (jt_code 29) 23 = .ok (.invokevirtual 216, 3) := by decide +kernel
theorem E29_23 {call : jv_F} {l0 l1 l2 : Option Value} {v0 : Value}  {st : List Value} {m : Nat} {I : Nat → Int32} {A : Nat → Nat → Int32} {L : Nat → Nat → Int64} {rest : Nat → Option jv_C} {z : Nat × Nat} (hw : jv_wide st = true) (hc : (call 13 [.ref m, v0] (jm_H m I A L rest z)).isSome = true) : jv_ev call 29 23 [l0, l1, l2] (v0 :: .ref m :: st) (jm_H m I A L rest z) = jv_ev call 29 26 [l0, l1, l2] ((((call 13 [.ref m, v0] (jm_H m I A L rest z)).getD (none, (jm_H m I A L rest z))).1).toList ++ st) ((call 13 [.ref m, v0] (jm_H m I A L rest z)).getD (none, (jm_H m I A L rest z))).2 := by
  obtain ⟨⟨r, h'⟩, hv⟩ := Option.isSome_iff_exists.mp hc
  rw [hv]
  exact je_virt (y := 13) (as := [v0]) D29_23 rfl (by decide) (by decide) rfl jm_cl hw hv
theorem D29_26 : decode (jt_code 29) 26 = .ok (.ifCond .eq 8, 3) := by decide +kernel
theorem E29_26 {call : jv_F} {l0 l1 l2 : Option Value} {x : Int32} {st : List Value} {h : jv_H} : jv_ev call 29 26 [l0, l1, l2] (.int x :: st) h = if x = 0 then jv_ev call 29 34 [l0, l1, l2] st h else jv_ev call 29 29 [l0, l1, l2] st h := je_ifc D29_26 (by decide) rfl rfl
theorem D29_29 : decode (jt_code 29) 29 = .ok (.aload_n 0, 1) := by decide +kernel
theorem E29_29 {call : jv_F} {l1 l2 : Option Value} {a : Nat} {st : List Value} {h : jv_H} : jv_ev call 29 29 [some (.ref a), l1, l2] st h = jv_ev call 29 30 [some (.ref a), l1, l2] (.ref a :: st) h := je_aload_n (r := some a) D29_29 rfl rfl
theorem D29_30 : decode (jt_code 29) 30 = .ok (.getfield 94, 3) := by decide +kernel
theorem E29_30 {call : jv_F} {l0 l1 l2 : Option Value}  {st : List Value} {m : Nat} {I : Nat → Int32} {A : Nat → Nat → Int32} {L : Nat → Nat → Int64} {rest : Nat → Option jv_C} {z : Nat × Nat} : jv_ev call 29 30 [l0, l1, l2] (.ref m :: st) (jm_H m I A L rest z) = jv_ev call 29 33 [l0, l1, l2] (.int (I 37) :: st) (jm_H m I A L rest z) := je_get D29_30 rfl (by decide) jm_g37
theorem D29_33 : decode (jt_code 29) 33 = .ok (.ireturn, 1) := by decide +kernel
theorem E29_33 {call : jv_F} {l0 l1 l2 : Option Value} {v : Int32} {h : jv_H} : jv_ev call 29 33 [l0, l1, l2] [.int v] h = some (some (.int v), h) := je_iret (ty := .int) D29_33 rfl rfl rfl
theorem D29_34 : decode (jt_code 29) 34 = .ok (.iconst 1, 1) := by decide +kernel
theorem E29_34 {call : jv_F} {l0 l1 l2 : Option Value}  {st : List Value} {h : jv_H} : jv_ev call 29 34 [l0, l1, l2] st h = jv_ev call 29 35 [l0, l1, l2] (.int (nI 1) :: st) h := je_iconst D29_34 rfl (by decide)
theorem D29_35 : decode (jt_code 29) 35 = .ok (.istore_n 1, 1) := by decide +kernel
theorem E29_35 {call : jv_F} {l0 l1 l2 : Option Value} {x : Int32} {st : List Value} {h : jv_H} (hk : ¬ jv_is2 (some l0) = true) : jv_ev call 29 35 [l0, l1, l2] (.int x :: st) h = jv_ev call 29 36 [l0, some (.int x), l2] st h := je_istore_n D29_35 rfl (Nat.le_of_ble_eq_true rfl) (by show jv_st1 _ 1 _ = _; simp only [jv_st1, jv_kill, List.getElem?_cons_succ, List.getElem?_cons_zero, hk, if_false]; rfl)
theorem D29_36 : decode (jt_code 29) 36 = .ok (.iload_n 1, 1) := by decide +kernel
theorem E29_36 {call : jv_F} {l0 l2 : Option Value} {x : Int32} {st : List Value} {h : jv_H} : jv_ev call 29 36 [l0, some (.int x), l2] st h = jv_ev call 29 37 [l0, some (.int x), l2] (.int x :: st) h := je_iload_n D29_36 rfl rfl
theorem D29_37 : decode (jt_code 29) 37 = .ok (.aload_n 0, 1) := by decide +kernel
theorem E29_37 {call : jv_F} {l1 l2 : Option Value} {a : Nat} {st : List Value} {h : jv_H} : jv_ev call 29 37 [some (.ref a), l1, l2] st h = jv_ev call 29 38 [some (.ref a), l1, l2] (.ref a :: st) h := je_aload_n (r := some a) D29_37 rfl rfl
theorem D29_38 : decode (jt_code 29) 38 = .ok (.getfield 97, 3) := by decide +kernel
theorem E29_38 {call : jv_F} {l0 l1 l2 : Option Value}  {st : List Value} {m : Nat} {I : Nat → Int32} {A : Nat → Nat → Int32} {L : Nat → Nat → Int64} {rest : Nat → Option jv_C} {z : Nat × Nat} : jv_ev call 29 38 [l0, l1, l2] (.ref m :: st) (jm_H m I A L rest z) = jv_ev call 29 41 [l0, l1, l2] (.int (I 5) :: st) (jm_H m I A L rest z) := je_get D29_38 rfl (by decide) jm_g5
theorem D29_41 : decode (jt_code 29) 41 = .ok (.if_icmp .gt 39, 3) := by decide +kernel
theorem E29_41 {call : jv_F} {l0 l1 l2 : Option Value} {x y : Int32} {st : List Value} {h : jv_H} : jv_ev call 29 41 [l0, l1, l2] (.int y :: .int x :: st) h = if y < x then jv_ev call 29 80 [l0, l1, l2] st h else jv_ev call 29 44 [l0, l1, l2] st h := je_icmp D29_41 (by decide) rfl rfl
theorem D29_44 : decode (jt_code 29) 44 = .ok (.aload_n 0, 1) := by decide +kernel
theorem E29_44 {call : jv_F} {l1 l2 : Option Value} {a : Nat} {st : List Value} {h : jv_H} : jv_ev call 29 44 [some (.ref a), l1, l2] st h = jv_ev call 29 45 [some (.ref a), l1, l2] (.ref a :: st) h := je_aload_n (r := some a) D29_44 rfl rfl
theorem D29_45 : decode (jt_code 29) 45 = .ok (.getfield 94, 3) := by decide +kernel
theorem E29_45 {call : jv_F} {l0 l1 l2 : Option Value}  {st : List Value} {m : Nat} {I : Nat → Int32} {A : Nat → Nat → Int32} {L : Nat → Nat → Int64} {rest : Nat → Option jv_C} {z : Nat × Nat} : jv_ev call 29 45 [l0, l1, l2] (.ref m :: st) (jm_H m I A L rest z) = jv_ev call 29 48 [l0, l1, l2] (.int (I 37) :: st) (jm_H m I A L rest z) := je_get D29_45 rfl (by decide) jm_g37
theorem D29_48 : decode (jt_code 29) 48 = .ok (.iload_n 1, 1) := by decide +kernel
theorem E29_48 {call : jv_F} {l0 l2 : Option Value} {x : Int32} {st : List Value} {h : jv_H} : jv_ev call 29 48 [l0, some (.int x), l2] st h = jv_ev call 29 49 [l0, some (.int x), l2] (.int x :: st) h := je_iload_n D29_48 rfl rfl
theorem D29_49 : decode (jt_code 29) 49 = .ok (.iadd, 1) := by decide +kernel
theorem E29_49 {call : jv_F} {l0 l1 l2 : Option Value} {x y : Int32} {st : List Value} {h : jv_H} : jv_ev call 29 49 [l0, l1, l2] (.int y :: .int x :: st) h = jv_ev call 29 50 [l0, l1, l2] (.int (x + y) :: st) h := je_b2 (f := fun x y => x + y) D29_49 rfl (fun _ => rfl)
theorem D29_50 : decode (jt_code 29) 50 = .ok (.aload_n 0, 1) := by decide +kernel
theorem E29_50 {call : jv_F} {l1 l2 : Option Value} {a : Nat} {st : List Value} {h : jv_H} : jv_ev call 29 50 [some (.ref a), l1, l2] st h = jv_ev call 29 51 [some (.ref a), l1, l2] (.ref a :: st) h := je_aload_n (r := some a) D29_50 rfl rfl
theorem D29_51 : decode (jt_code 29) 51 = .ok (.getfield 97, 3) := by decide +kernel
theorem E29_51 {call : jv_F} {l0 l1 l2 : Option Value}  {st : List Value} {m : Nat} {I : Nat → Int32} {A : Nat → Nat → Int32} {L : Nat → Nat → Int64} {rest : Nat → Option jv_C} {z : Nat × Nat} : jv_ev call 29 51 [l0, l1, l2] (.ref m :: st) (jm_H m I A L rest z) = jv_ev call 29 54 [l0, l1, l2] (.int (I 5) :: st) (jm_H m I A L rest z) := je_get D29_51 rfl (by decide) jm_g5
theorem D29_54 : decode (jt_code 29) 54 = .ok (.irem, 1) := by decide +kernel
theorem E29_54 {call : jv_F} {l0 l1 l2 : Option Value} {x y : Int32} {st : List Value} {h : jv_H} (hy : ¬ y = 0) : jv_ev call 29 54 [l0, l1, l2] (.int y :: .int x :: st) h = jv_ev call 29 55 [l0, l1, l2] (.int (x - x / y * y) :: st) h := je_irem D29_54 rfl hy
theorem D29_55 : decode (jt_code 29) 55 = .ok (.istore_n 2, 1) := by decide +kernel
theorem E29_55 {call : jv_F} {l0 l1 l2 : Option Value} {x : Int32} {st : List Value} {h : jv_H} (hk : ¬ jv_is2 (some l1) = true) : jv_ev call 29 55 [l0, l1, l2] (.int x :: st) h = jv_ev call 29 56 [l0, l1, some (.int x)] st h := je_istore_n D29_55 rfl (Nat.le_of_ble_eq_true rfl) (by show jv_st1 _ 2 _ = _; simp only [jv_st1, jv_kill, List.getElem?_cons_succ, List.getElem?_cons_zero, hk, if_false]; rfl)
theorem D29_56 : decode (jt_code 29) 56 = .ok (.aload_n 0, 1) := by decide +kernel
theorem E29_56 {call : jv_F} {l1 l2 : Option Value} {a : Nat} {st : List Value} {h : jv_H} : jv_ev call 29 56 [some (.ref a), l1, l2] st h = jv_ev call 29 57 [some (.ref a), l1, l2] (.ref a :: st) h := je_aload_n (r := some a) D29_56 rfl rfl
theorem D29_57 : decode (jt_code 29) 57 = .ok (.iload_n 2, 1) := by decide +kernel
theorem E29_57 {call : jv_F} {l0 l1 : Option Value} {x : Int32} {st : List Value} {h : jv_H} : jv_ev call 29 57 [l0, l1, some (.int x)] st h = jv_ev call 29 58 [l0, l1, some (.int x)] (.int x :: st) h := je_iload_n D29_57 rfl rfl
theorem D29_58 : decode (jt_code 29) 58 = .ok (.invokevirtual 125, 3) := by decide +kernel
theorem E29_58 {call : jv_F} {l0 l1 l2 : Option Value} {v0 : Value}  {st : List Value} {m : Nat} {I : Nat → Int32} {A : Nat → Nat → Int32} {L : Nat → Nat → Int64} {rest : Nat → Option jv_C} {z : Nat × Nat} (hw : jv_wide st = true) (hc : (call 12 [.ref m, v0] (jm_H m I A L rest z)).isSome = true) : jv_ev call 29 58 [l0, l1, l2] (v0 :: .ref m :: st) (jm_H m I A L rest z) = jv_ev call 29 61 [l0, l1, l2] ((((call 12 [.ref m, v0] (jm_H m I A L rest z)).getD (none, (jm_H m I A L rest z))).1).toList ++ st) ((call 12 [.ref m, v0] (jm_H m I A L rest z)).getD (none, (jm_H m I A L rest z))).2 := by
  obtain ⟨⟨r, h'⟩, hv⟩ := Option.isSome_iff_exists.mp hc
  rw [hv]
  exact je_virt (y := 12) (as := [v0]) D29_58 rfl (by decide) (by decide) rfl jm_cl hw hv
theorem D29_61 : decode (jt_code 29) 61 = .ok (.ifCond .eq 13, 3) := by decide +kernel
theorem E29_61 {call : jv_F} {l0 l1 l2 : Option Value} {x : Int32} {st : List Value} {h : jv_H} : jv_ev call 29 61 [l0, l1, l2] (.int x :: st) h = if x = 0 then jv_ev call 29 74 [l0, l1, l2] st h else jv_ev call 29 64 [l0, l1, l2] st h := je_ifc D29_61 (by decide) rfl rfl
theorem D29_64 : decode (jt_code 29) 64 = .ok (.aload_n 0, 1) := by decide +kernel
theorem E29_64 {call : jv_F} {l1 l2 : Option Value} {a : Nat} {st : List Value} {h : jv_H} : jv_ev call 29 64 [some (.ref a), l1, l2] st h = jv_ev call 29 65 [some (.ref a), l1, l2] (.ref a :: st) h := je_aload_n (r := some a) D29_64 rfl rfl
theorem D29_65 : decode (jt_code 29) 65 = .ok (.iload_n 2, 1) := by decide +kernel
theorem E29_65 {call : jv_F} {l0 l1 : Option Value} {x : Int32} {st : List Value} {h : jv_H} : jv_ev call 29 65 [l0, l1, some (.int x)] st h = jv_ev call 29 66 [l0, l1, some (.int x)] (.int x :: st) h := je_iload_n D29_65 rfl rfl
theorem D29_66 : decode (jt_code 29) 66 = .ok (.invokevirtual 216, 3) := by decide +kernel
theorem E29_66 {call : jv_F} {l0 l1 l2 : Option Value} {v0 : Value}  {st : List Value} {m : Nat} {I : Nat → Int32} {A : Nat → Nat → Int32} {L : Nat → Nat → Int64} {rest : Nat → Option jv_C} {z : Nat × Nat} (hw : jv_wide st = true) (hc : (call 13 [.ref m, v0] (jm_H m I A L rest z)).isSome = true) : jv_ev call 29 66 [l0, l1, l2] (v0 :: .ref m :: st) (jm_H m I A L rest z) = jv_ev call 29 69 [l0, l1, l2] ((((call 13 [.ref m, v0] (jm_H m I A L rest z)).getD (none, (jm_H m I A L rest z))).1).toList ++ st) ((call 13 [.ref m, v0] (jm_H m I A L rest z)).getD (none, (jm_H m I A L rest z))).2 := by
  obtain ⟨⟨r, h'⟩, hv⟩ := Option.isSome_iff_exists.mp hc
  rw [hv]
  exact je_virt (y := 13) (as := [v0]) D29_66 rfl (by decide) (by decide) rfl jm_cl hw hv
theorem D29_69 : decode (jt_code 29) 69 = .ok (.ifCond .eq 5, 3) := by decide +kernel
theorem E29_69 {call : jv_F} {l0 l1 l2 : Option Value} {x : Int32} {st : List Value} {h : jv_H} : jv_ev call 29 69 [l0, l1, l2] (.int x :: st) h = if x = 0 then jv_ev call 29 74 [l0, l1, l2] st h else jv_ev call 29 72 [l0, l1, l2] st h := je_ifc D29_69 (by decide) rfl rfl
theorem D29_72 : decode (jt_code 29) 72 = .ok (.iload_n 2, 1) := by decide +kernel
theorem E29_72 {call : jv_F} {l0 l1 : Option Value} {x : Int32} {st : List Value} {h : jv_H} : jv_ev call 29 72 [l0, l1, some (.int x)] st h = jv_ev call 29 73 [l0, l1, some (.int x)] (.int x :: st) h := je_iload_n D29_72 rfl rfl
theorem D29_73 : decode (jt_code 29) 73 = .ok (.ireturn, 1) := by decide +kernel
theorem E29_73 {call : jv_F} {l0 l1 l2 : Option Value} {v : Int32} {h : jv_H} : jv_ev call 29 73 [l0, l1, l2] [.int v] h = some (some (.int v), h) := je_iret (ty := .int) D29_73 rfl rfl rfl
theorem D29_74 : decode (jt_code 29) 74 = .ok (.iinc 1 1, 3) := by decide +kernel
theorem E29_74 {call : jv_F} {l0 l2 : Option Value} {x : Int32} {st : List Value} {h : jv_H} (hk : ¬ jv_is2 (some l0) = true) : jv_ev call 29 74 [l0, some (.int x), l2] st h = jv_ev call 29 77 [l0, some (.int (x + (nI 1))), l2] st h := je_iinc D29_74 rfl rfl (v := x + (nI 1)) (by rfl) (by show jv_st1 _ 1 _ = _; simp only [jv_st1, jv_kill, List.getElem?_cons_succ, List.getElem?_cons_zero, hk, if_false]; rfl)
theorem D29_77 : decode (jt_code 29) 77 = .ok (.goto (-41), 3) := by decide +kernel
theorem E29_77 {call : jv_F} {l0 l1 l2 : Option Value}  {st : List Value} {h : jv_H} : jv_ev call 29 77 [l0, l1, l2] st h = jv_ev call 29 36 [l0, l1, l2] st h := je_goto D29_77 (by decide)
theorem D29_80 : decode (jt_code 29) 80 = .ok (.iconst (-1), 1) := by decide +kernel
theorem E29_80 {call : jv_F} {l0 l1 l2 : Option Value}  {st : List Value} {h : jv_H} : jv_ev call 29 80 [l0, l1, l2] st h = jv_ev call 29 81 [l0, l1, l2] (.int (-1) :: st) h := je_iconst D29_80 rfl (by decide)
theorem D29_81 : decode (jt_code 29) 81 = .ok (.ireturn, 1) := by decide +kernel
theorem E29_81 {call : jv_F} {l0 l1 l2 : Option Value} {v : Int32} {h : jv_H} : jv_ev call 29 81 [l0, l1, l2] [.int v] h = some (some (.int v), h) := je_iret (ty := .int) D29_81 rfl rfl rfl
/-! method 30: DrumMachineModel.ends -/
theorem N30 {d : Nat} {b : Nat} {a0 : Int32} {a1 : Int32} {h : jv_H} : jv_run (d + 1) 30 [.ref b, .int a0, .int a1] h = jv_ev (jv_run d) 30 0 [some (.ref b), some (.int a0), some (.int a1), none, none] [] h := jv_run_eq (Nat.le_of_ble_eq_true rfl) rfl
theorem D30_0 : decode (jt_code 30) 0 = .ok (.aload_n 0, 1) := by decide +kernel
theorem E30_0 {call : jv_F} {l1 l2 l3 l4 : Option Value} {a : Nat} {st : List Value} {h : jv_H} : jv_ev call 30 0 [some (.ref a), l1, l2, l3, l4] st h = jv_ev call 30 1 [some (.ref a), l1, l2, l3, l4] (.ref a :: st) h := je_aload_n (r := some a) D30_0 rfl rfl
theorem D30_1 : decode (jt_code 30) 1 = .ok (.getfield 27, 3) := by decide +kernel
theorem E30_1 {call : jv_F} {l0 l1 l2 l3 l4 : Option Value}  {st : List Value} {m : Nat} {I : Nat → Int32} {A : Nat → Nat → Int32} {L : Nat → Nat → Int64} {rest : Nat → Option jv_C} {z : Nat × Nat} : jv_ev call 30 1 [l0, l1, l2, l3, l4] (.ref m :: st) (jm_H m I A L rest z) = jv_ev call 30 4 [l0, l1, l2, l3, l4] (.ref (m + 5) :: st) (jm_H m I A L rest z) := je_get D30_1 rfl (by decide) jm_g8
theorem D30_4 : decode (jt_code 30) 4 = .ok (.iload_n 1, 1) := by decide +kernel
theorem E30_4 {call : jv_F} {l0 l2 l3 l4 : Option Value} {x : Int32} {st : List Value} {h : jv_H} : jv_ev call 30 4 [l0, some (.int x), l2, l3, l4] st h = jv_ev call 30 5 [l0, some (.int x), l2, l3, l4] (.int x :: st) h := je_iload_n D30_4 rfl rfl
theorem D30_5 : decode (jt_code 30) 5 = .ok (.iload_n 2, 1) := by decide +kernel
theorem E30_5 {call : jv_F} {l0 l1 l3 l4 : Option Value} {x : Int32} {st : List Value} {h : jv_H} : jv_ev call 30 5 [l0, l1, some (.int x), l3, l4] st h = jv_ev call 30 6 [l0, l1, some (.int x), l3, l4] (.int x :: st) h := je_iload_n D30_5 rfl rfl
theorem D30_6 : decode (jt_code 30) 6 = .ok (.iastore, 1) := by decide +kernel
theorem E30_6 {call : jv_F} {l0 l1 l2 l3 l4 : Option Value} {i : Nat} {v : Int32} {st : List Value} {m : Nat} {I : Nat → Int32} {A : Nat → Nat → Int32} {L : Nat → Nat → Int64} {rest : Nat → Option jv_C} {z : Nat × Nat} (hi : i < 12) : jv_ev call 30 6 [l0, l1, l2, l3, l4] (.int v :: .int (nI i) :: .ref (m + 5) :: st) (jm_H m I A L rest z) = jv_ev call 30 7 [l0, l1, l2, l3, l4] st (jm_H m I (va_up A 8 (upd (A 8) i v)) L rest z) := je_iast D30_6 rfl (jm_s8 hi)
theorem D30_7 : decode (jt_code 30) 7 = .ok (.aload_n 0, 1) := by decide +kernel
theorem E30_7 {call : jv_F} {l1 l2 l3 l4 : Option Value} {a : Nat} {st : List Value} {h : jv_H} : jv_ev call 30 7 [some (.ref a), l1, l2, l3, l4] st h = jv_ev call 30 8 [some (.ref a), l1, l2, l3, l4] (.ref a :: st) h := je_aload_n (r := some a) D30_7 rfl rfl
theorem D30_8 : decode (jt_code 30) 8 = .ok (.getfield 57, 3) := by decide +kernel
theorem E30_8 {call : jv_F} {l0 l1 l2 l3 l4 : Option Value}  {st : List Value} {m : Nat} {I : Nat → Int32} {A : Nat → Nat → Int32} {L : Nat → Nat → Int64} {rest : Nat → Option jv_C} {z : Nat × Nat} : jv_ev call 30 8 [l0, l1, l2, l3, l4] (.ref m :: st) (jm_H m I A L rest z) = jv_ev call 30 11 [l0, l1, l2, l3, l4] (.ref (m + 15) :: st) (jm_H m I A L rest z) := je_get D30_8 rfl (by decide) jm_g18
theorem D30_11 : decode (jt_code 30) 11 = .ok (.iload_n 1, 1) := by decide +kernel
theorem E30_11 {call : jv_F} {l0 l2 l3 l4 : Option Value} {x : Int32} {st : List Value} {h : jv_H} : jv_ev call 30 11 [l0, some (.int x), l2, l3, l4] st h = jv_ev call 30 12 [l0, some (.int x), l2, l3, l4] (.int x :: st) h := je_iload_n D30_11 rfl rfl
theorem D30_12 : decode (jt_code 30) 12 = .ok (.iconst 0, 1) := by decide +kernel
theorem E30_12 {call : jv_F} {l0 l1 l2 l3 l4 : Option Value}  {st : List Value} {h : jv_H} : jv_ev call 30 12 [l0, l1, l2, l3, l4] st h = jv_ev call 30 13 [l0, l1, l2, l3, l4] (.int (nI 0) :: st) h := je_iconst D30_12 rfl (by decide)
theorem D30_13 : decode (jt_code 30) 13 = .ok (.iastore, 1) := by decide +kernel
theorem E30_13 {call : jv_F} {l0 l1 l2 l3 l4 : Option Value} {i : Nat} {v : Int32} {st : List Value} {m : Nat} {I : Nat → Int32} {A : Nat → Nat → Int32} {L : Nat → Nat → Int64} {rest : Nat → Option jv_C} {z : Nat × Nat} (hi : i < 12) : jv_ev call 30 13 [l0, l1, l2, l3, l4] (.int v :: .int (nI i) :: .ref (m + 15) :: st) (jm_H m I A L rest z) = jv_ev call 30 14 [l0, l1, l2, l3, l4] st (jm_H m I (va_up A 18 (upd (A 18) i v)) L rest z) := je_iast D30_13 rfl (jm_s18 hi)
theorem D30_14 : decode (jt_code 30) 14 = .ok (.aload_n 0, 1) := by decide +kernel
theorem E30_14 {call : jv_F} {l1 l2 l3 l4 : Option Value} {a : Nat} {st : List Value} {h : jv_H} : jv_ev call 30 14 [some (.ref a), l1, l2, l3, l4] st h = jv_ev call 30 15 [some (.ref a), l1, l2, l3, l4] (.ref a :: st) h := je_aload_n (r := some a) D30_14 rfl rfl
theorem D30_15 : decode (jt_code 30) 15 = .ok (.getfield 161, 3) := by decide +kernel
theorem E30_15 {call : jv_F} {l0 l1 l2 l3 l4 : Option Value}  {st : List Value} {m : Nat} {I : Nat → Int32} {A : Nat → Nat → Int32} {L : Nat → Nat → Int64} {rest : Nat → Option jv_C} {z : Nat × Nat} : jv_ev call 30 15 [l0, l1, l2, l3, l4] (.ref m :: st) (jm_H m I A L rest z) = jv_ev call 30 18 [l0, l1, l2, l3, l4] (.int (I 31) :: st) (jm_H m I A L rest z) := je_get D30_15 rfl (by decide) jm_g31
theorem D30_18 : decode (jt_code 30) 18 = .ok (.iconst 1, 1) := by decide +kernel
theorem E30_18 {call : jv_F} {l0 l1 l2 l3 l4 : Option Value}  {st : List Value} {h : jv_H} : jv_ev call 30 18 [l0, l1, l2, l3, l4] st h = jv_ev call 30 19 [l0, l1, l2, l3, l4] (.int (nI 1) :: st) h := je_iconst D30_18 rfl (by decide)
theorem D30_19 : decode (jt_code 30) 19 = .ok (.isub, 1) := by decide +kernel
theorem E30_19 {call : jv_F} {l0 l1 l2 l3 l4 : Option Value} {x y : Int32} {st : List Value} {h : jv_H} : jv_ev call 30 19 [l0, l1, l2, l3, l4] (.int y :: .int x :: st) h = jv_ev call 30 20 [l0, l1, l2, l3, l4] (.int (x - y) :: st) h := je_b2 (f := fun x y => x - y) D30_19 rfl (fun _ => rfl)
theorem D30_20 : decode (jt_code 30) 20 = .ok (.istore_n 3, 1) := by decide +kernel
theorem E30_20 {call : jv_F} {l0 l1 l2 l3 l4 : Option Value} {x : Int32} {st : List Value} {h : jv_H} (hk : ¬ jv_is2 (some l2) = true) : jv_ev call 30 20 [l0, l1, l2, l3, l4] (.int x :: st) h = jv_ev call 30 21 [l0, l1, l2, some (.int x), l4] st h := je_istore_n D30_20 rfl (Nat.le_of_ble_eq_true rfl) (by show jv_st1 _ 3 _ = _; simp only [jv_st1, jv_kill, List.getElem?_cons_succ, List.getElem?_cons_zero, hk, if_false]; rfl)
theorem D30_21 : decode (jt_code 30) 21 = .ok (.iload_n 3, 1) := by decide +kernel
theorem E30_21 {call : jv_F} {l0 l1 l2 l4 : Option Value} {x : Int32} {st : List Value} {h : jv_H} : jv_ev call 30 21 [l0, l1, l2, some (.int x), l4] st h = jv_ev call 30 22 [l0, l1, l2, some (.int x), l4] (.int x :: st) h := je_iload_n D30_21 rfl rfl
theorem D30_22 : decode (jt_code 30) 22 = .ok (.ifCond .lt 47, 3) := by decide +kernel
theorem E30_22 {call : jv_F} {l0 l1 l2 l3 l4 : Option Value} {x : Int32} {st : List Value} {h : jv_H} : jv_ev call 30 22 [l0, l1, l2, l3, l4] (.int x :: st) h = if x < 0 then jv_ev call 30 69 [l0, l1, l2, l3, l4] st h else jv_ev call 30 25 [l0, l1, l2, l3, l4] st h := je_ifc D30_22 (by decide) rfl rfl
theorem D30_25 : decode (jt_code 30) 25 = .ok (.aload_n 0, 1) := by decide +kernel
theorem E30_25 {call : jv_F} {l1 l2 l3 l4 : Option Value} {a : Nat} {st : List Value} {h : jv_H} : jv_ev call 30 25 [some (.ref a), l1, l2, l3, l4] st h = jv_ev call 30 26 [some (.ref a), l1, l2, l3, l4] (.ref a :: st) h := je_aload_n (r := some a) D30_25 rfl rfl
theorem D30_26 : decode (jt_code 30) 26 = .ok (.getfield 91, 3) := by decide +kernel
theorem E30_26 {call : jv_F} {l0 l1 l2 l3 l4 : Option Value}  {st : List Value} {m : Nat} {I : Nat → Int32} {A : Nat → Nat → Int32} {L : Nat → Nat → Int64} {rest : Nat → Option jv_C} {z : Nat × Nat} : jv_ev call 30 26 [l0, l1, l2, l3, l4] (.ref m :: st) (jm_H m I A L rest z) = jv_ev call 30 29 [l0, l1, l2, l3, l4] (.ref (m + 26) :: st) (jm_H m I A L rest z) := je_get D30_26 rfl (by decide) jm_g30
theorem D30_29 : decode (jt_code 30) 29 = .ok (.iload_n 3, 1) := by decide +kernel
theorem E30_29 {call : jv_F} {l0 l1 l2 l4 : Option Value} {x : Int32} {st : List Value} {h : jv_H} : jv_ev call 30 29 [l0, l1, l2, some (.int x), l4] st h = jv_ev call 30 30 [l0, l1, l2, some (.int x), l4] (.int x :: st) h := je_iload_n D30_29 rfl rfl
theorem D30_30 : decode (jt_code 30) 30 = .ok (.iaload, 1) := by decide +kernel
theorem E30_30 {call : jv_F} {l0 l1 l2 l3 l4 : Option Value} {i : Nat} {st : List Value} {m : Nat} {I : Nat → Int32} {A : Nat → Nat → Int32} {L : Nat → Nat → Int64} {rest : Nat → Option jv_C} {z : Nat × Nat} (hi : i < 18) : jv_ev call 30 30 [l0, l1, l2, l3, l4] (.int (nI i) :: .ref (m + 26) :: st) (jm_H m I A L rest z) = jv_ev call 30 31 [l0, l1, l2, l3, l4] (.int (A 30 i) :: st) (jm_H m I A L rest z) := je_iald D30_30 rfl (jm_l30 hi)
theorem D30_31 : decode (jt_code 30) 31 = .ok (.istore 4, 2) := by decide +kernel
theorem E30_31 {call : jv_F} {l0 l1 l2 l3 l4 : Option Value} {x : Int32} {st : List Value} {h : jv_H} (hk : ¬ jv_is2 (some l3) = true) : jv_ev call 30 31 [l0, l1, l2, l3, l4] (.int x :: st) h = jv_ev call 30 33 [l0, l1, l2, l3, some (.int x)] st h := je_istore D30_31 rfl (Nat.le_of_ble_eq_true rfl) (by show jv_st1 _ 4 _ = _; simp only [jv_st1, jv_kill, List.getElem?_cons_succ, List.getElem?_cons_zero, hk, if_false]; rfl)
theorem D30_33 : decode (jt_code 30) 33 = .ok (.aload_n 0, 1) := by decide +kernel
theorem E30_33 {call : jv_F} {l1 l2 l3 l4 : Option Value} {a : Nat} {st : List Value} {h : jv_H} : jv_ev call 30 33 [some (.ref a), l1, l2, l3, l4] st h = jv_ev call 30 34 [some (.ref a), l1, l2, l3, l4] (.ref a :: st) h := je_aload_n (r := some a) D30_33 rfl rfl
theorem D30_34 : decode (jt_code 30) 34 = .ok (.getfield 70, 3) := by decide +kernel
theorem E30_34 {call : jv_F} {l0 l1 l2 l3 l4 : Option Value}  {st : List Value} {m : Nat} {I : Nat → Int32} {A : Nat → Nat → Int32} {L : Nat → Nat → Int64} {rest : Nat → Option jv_C} {z : Nat × Nat} : jv_ev call 30 34 [l0, l1, l2, l3, l4] (.ref m :: st) (jm_H m I A L rest z) = jv_ev call 30 37 [l0, l1, l2, l3, l4] (.ref (m + 19) :: st) (jm_H m I A L rest z) := je_get D30_34 rfl (by decide) jm_g23
theorem D30_37 : decode (jt_code 30) 37 = .ok (.iload 4, 2) := by decide +kernel
theorem E30_37 {call : jv_F} {l0 l1 l2 l3 : Option Value} {x : Int32} {st : List Value} {h : jv_H} : jv_ev call 30 37 [l0, l1, l2, l3, some (.int x)] st h = jv_ev call 30 39 [l0, l1, l2, l3, some (.int x)] (.int x :: st) h := je_iload D30_37 rfl rfl
theorem D30_39 : decode (jt_code 30) 39 = .ok (.iaload, 1) := by decide +kernel
theorem E30_39 {call : jv_F} {l0 l1 l2 l3 l4 : Option Value} {i : Nat} {st : List Value} {m : Nat} {I : Nat → Int32} {A : Nat → Nat → Int32} {L : Nat → Nat → Int64} {rest : Nat → Option jv_C} {z : Nat × Nat} (hi : i < 17) : jv_ev call 30 39 [l0, l1, l2, l3, l4] (.int (nI i) :: .ref (m + 19) :: st) (jm_H m I A L rest z) = jv_ev call 30 40 [l0, l1, l2, l3, l4] (.int (A 23 i) :: st) (jm_H m I A L rest z) := je_iald D30_39 rfl (jm_l23 hi)
theorem D30_40 : decode (jt_code 30) 40 = .ok (.bipush 64, 2) := by decide +kernel
theorem E30_40 {call : jv_F} {l0 l1 l2 l3 l4 : Option Value}  {st : List Value} {h : jv_H} : jv_ev call 30 40 [l0, l1, l2, l3, l4] st h = jv_ev call 30 42 [l0, l1, l2, l3, l4] (.int (nI 64) :: st) h := je_bipush D30_40 rfl (by decide)
theorem D30_42 : decode (jt_code 30) 42 = .ok (.idiv, 1) := by decide +kernel
theorem E30_42 {call : jv_F} {l0 l1 l2 l3 l4 : Option Value} {x y : Int32} {st : List Value} {h : jv_H} (hy : ¬ y = 0) : jv_ev call 30 42 [l0, l1, l2, l3, l4] (.int y :: .int x :: st) h = jv_ev call 30 43 [l0, l1, l2, l3, l4] (.int (x / y) :: st) h := je_idiv D30_42 rfl hy
theorem D30_43 : decode (jt_code 30) 43 = .ok (.iload_n 1, 1) := by decide +kernel
theorem E30_43 {call : jv_F} {l0 l2 l3 l4 : Option Value} {x : Int32} {st : List Value} {h : jv_H} : jv_ev call 30 43 [l0, some (.int x), l2, l3, l4] st h = jv_ev call 30 44 [l0, some (.int x), l2, l3, l4] (.int x :: st) h := je_iload_n D30_43 rfl rfl
theorem D30_44 : decode (jt_code 30) 44 = .ok (.if_icmp .eq 6, 3) := by decide +kernel
theorem E30_44 {call : jv_F} {l0 l1 l2 l3 l4 : Option Value} {x y : Int32} {st : List Value} {h : jv_H} : jv_ev call 30 44 [l0, l1, l2, l3, l4] (.int y :: .int x :: st) h = if x = y then jv_ev call 30 50 [l0, l1, l2, l3, l4] st h else jv_ev call 30 47 [l0, l1, l2, l3, l4] st h := je_icmp D30_44 (by decide) rfl rfl
theorem D30_47 : decode (jt_code 30) 47 = .ok (.goto 16, 3) := by decide +kernel
theorem E30_47 {call : jv_F} {l0 l1 l2 l3 l4 : Option Value}  {st : List Value} {h : jv_H} : jv_ev call 30 47 [l0, l1, l2, l3, l4] st h = jv_ev call 30 63 [l0, l1, l2, l3, l4] st h := je_goto D30_47 (by decide)
theorem D30_50 : decode (jt_code 30) 50 = .ok (.aload_n 0, 1) := by decide +kernel
theorem E30_50 {call : jv_F} {l1 l2 l3 l4 : Option Value} {a : Nat} {st : List Value} {h : jv_H} : jv_ev call 30 50 [some (.ref a), l1, l2, l3, l4] st h = jv_ev call 30 51 [some (.ref a), l1, l2, l3, l4] (.ref a :: st) h := je_aload_n (r := some a) D30_50 rfl rfl
theorem D30_51 : decode (jt_code 30) 51 = .ok (.getfield 79, 3) := by decide +kernel
theorem E30_51 {call : jv_F} {l0 l1 l2 l3 l4 : Option Value}  {st : List Value} {m : Nat} {I : Nat → Int32} {A : Nat → Nat → Int32} {L : Nat → Nat → Int64} {rest : Nat → Option jv_C} {z : Nat × Nat} : jv_ev call 30 51 [l0, l1, l2, l3, l4] (.ref m :: st) (jm_H m I A L rest z) = jv_ev call 30 54 [l0, l1, l2, l3, l4] (.ref (m + 22) :: st) (jm_H m I A L rest z) := je_get D30_51 rfl (by decide) jm_g26
theorem D30_54 : decode (jt_code 30) 54 = .ok (.iload 4, 2) := by decide +kernel
theorem E30_54 {call : jv_F} {l0 l1 l2 l3 : Option Value} {x : Int32} {st : List Value} {h : jv_H} : jv_ev call 30 54 [l0, l1, l2, l3, some (.int x)] st h = jv_ev call 30 56 [l0, l1, l2, l3, some (.int x)] (.int x :: st) h := je_iload D30_54 rfl rfl
theorem D30_56 : decode (jt_code 30) 56 = .ok (.iconst 0, 1) := by decide +kernel
theorem E30_56 {call : jv_F} {l0 l1 l2 l3 l4 : Option Value}  {st : List Value} {h : jv_H} : jv_ev call 30 56 [l0, l1, l2, l3, l4] st h = jv_ev call 30 57 [l0, l1, l2, l3, l4] (.int (nI 0) :: st) h := je_iconst D30_56 rfl (by decide)
theorem D30_57 : decode (jt_code 30) 57 = .ok (.bastore, 1) := by decide +kernel
theorem E30_57 {call : jv_F} {l0 l1 l2 l3 l4 : Option Value} {i : Nat} {v : Int32} {st : List Value} {m : Nat} {I : Nat → Int32} {A : Nat → Nat → Int32} {L : Nat → Nat → Int64} {rest : Nat → Option jv_C} {z : Nat × Nat} (hi : i < 17) (hv : narrow .boolean (.int v) = .int v) : jv_ev call 30 57 [l0, l1, l2, l3, l4] (.int v :: .int (nI i) :: .ref (m + 22) :: st) (jm_H m I A L rest z) = jv_ev call 30 58 [l0, l1, l2, l3, l4] st (jm_H m I (va_up A 26 (upd (A 26) i v)) L rest z) := je_bast D30_57 rfl (by rw [hv]; exact jm_s26 hi)
theorem D30_58 : decode (jt_code 30) 58 = .ok (.aload_n 0, 1) := by decide +kernel
theorem E30_58 {call : jv_F} {l1 l2 l3 l4 : Option Value} {a : Nat} {st : List Value} {h : jv_H} : jv_ev call 30 58 [some (.ref a), l1, l2, l3, l4] st h = jv_ev call 30 59 [some (.ref a), l1, l2, l3, l4] (.ref a :: st) h := je_aload_n (r := some a) D30_58 rfl rfl
theorem D30_59 : decode (jt_code 30) 59 = .ok (.iload_n 3, 1) := by decide +kernel
theorem E30_59 {call : jv_F} {l0 l1 l2 l4 : Option Value} {x : Int32} {st : List Value} {h : jv_H} : jv_ev call 30 59 [l0, l1, l2, some (.int x), l4] st h = jv_ev call 30 60 [l0, l1, l2, some (.int x), l4] (.int x :: st) h := je_iload_n D30_59 rfl rfl
theorem D30_60 : decode (jt_code 30) 60 = .ok (.invokevirtual 201, 3) := by decide +kernel
theorem E30_60 {call : jv_F} {l0 l1 l2 l3 l4 : Option Value} {v0 : Value}  {st : List Value} {m : Nat} {I : Nat → Int32} {A : Nat → Nat → Int32} {L : Nat → Nat → Int64} {rest : Nat → Option jv_C} {z : Nat × Nat} (hw : jv_wide st = true) (hc : (call 26 [.ref m, v0] (jm_H m I A L rest z)).isSome = true) : jv_ev call 30 60 [l0, l1, l2, l3, l4] (v0 :: .ref m :: st) (jm_H m I A L rest z) = jv_ev call 30 63 [l0, l1, l2, l3, l4] ((((call 26 [.ref m, v0] (jm_H m I A L rest z)).getD (none, (jm_H m I A L rest z))).1).toList ++ st) ((call 26 [.ref m, v0] (jm_H m I A L rest z)).getD (none, (jm_H m I A L rest z))).2 := by
  obtain ⟨⟨r, h'⟩, hv⟩ := Option.isSome_iff_exists.mp hc
  rw [hv]
  exact je_virt (y := 26) (as := [v0]) D30_60 rfl (by decide) (by decide) rfl jm_cl hw hv
theorem D30_63 : decode (jt_code 30) 63 = .ok (.iinc 3 (-1), 3) := by decide +kernel
theorem E30_63 {call : jv_F} {l0 l1 l2 l4 : Option Value} {x : Int32} {st : List Value} {h : jv_H} (hk : ¬ jv_is2 (some l2) = true) : jv_ev call 30 63 [l0, l1, l2, some (.int x), l4] st h = jv_ev call 30 66 [l0, l1, l2, some (.int (x + (-1))), l4] st h := je_iinc D30_63 rfl rfl (v := x + (-1)) (by rfl) (by show jv_st1 _ 3 _ = _; simp only [jv_st1, jv_kill, List.getElem?_cons_succ, List.getElem?_cons_zero, hk, if_false]; rfl)
theorem D30_66 : decode (jt_code 30) 66 = .ok (.goto (-45), 3) := by decide +kernel
theorem E30_66 {call : jv_F} {l0 l1 l2 l3 l4 : Option Value}  {st : List Value} {h : jv_H} : jv_ev call 30 66 [l0, l1, l2, l3, l4] st h = jv_ev call 30 21 [l0, l1, l2, l3, l4] st h := je_goto D30_66 (by decide)
theorem D30_69 : decode (jt_code 30) 69 = .ok (.bipush 64, 2) := by decide +kernel
theorem E30_69 {call : jv_F} {l0 l1 l2 l3 l4 : Option Value}  {st : List Value} {h : jv_H} : jv_ev call 30 69 [l0, l1, l2, l3, l4] st h = jv_ev call 30 71 [l0, l1, l2, l3, l4] (.int (nI 64) :: st) h := je_bipush D30_69 rfl (by decide)
theorem D30_71 : decode (jt_code 30) 71 = .ok (.iload_n 1, 1) := by decide +kernel
theorem E30_71 {call : jv_F} {l0 l2 l3 l4 : Option Value} {x : Int32} {st : List Value} {h : jv_H} : jv_ev call 30 71 [l0, some (.int x), l2, l3, l4] st h = jv_ev call 30 72 [l0, some (.int x), l2, l3, l4] (.int x :: st) h := je_iload_n D30_71 rfl rfl
theorem D30_72 : decode (jt_code 30) 72 = .ok (.imul, 1) := by decide +kernel
theorem E30_72 {call : jv_F} {l0 l1 l2 l3 l4 : Option Value} {x y : Int32} {st : List Value} {h : jv_H} : jv_ev call 30 72 [l0, l1, l2, l3, l4] (.int y :: .int x :: st) h = jv_ev call 30 73 [l0, l1, l2, l3, l4] (.int (x * y) :: st) h := je_b2 (f := fun x y => x * y) D30_72 rfl (fun _ => rfl)
theorem D30_73 : decode (jt_code 30) 73 = .ok (.istore_n 3, 1) := by decide +kernel
theorem E30_73 {call : jv_F} {l0 l1 l2 l3 l4 : Option Value} {x : Int32} {st : List Value} {h : jv_H} (hk : ¬ jv_is2 (some l2) = true) : jv_ev call 30 73 [l0, l1, l2, l3, l4] (.int x :: st) h = jv_ev call 30 74 [l0, l1, l2, some (.int x), l4] st h := je_istore_n D30_73 rfl (Nat.le_of_ble_eq_true rfl) (by show jv_st1 _ 3 _ = _; simp only [jv_st1, jv_kill, List.getElem?_cons_succ, List.getElem?_cons_zero, hk, if_false]; rfl)
theorem D30_74 : decode (jt_code 30) 74 = .ok (.iload_n 3, 1) := by decide +kernel
theorem E30_74 {call : jv_F} {l0 l1 l2 l4 : Option Value} {x : Int32} {st : List Value} {h : jv_H} : jv_ev call 30 74 [l0, l1, l2, some (.int x), l4] st h = jv_ev call 30 75 [l0, l1, l2, some (.int x), l4] (.int x :: st) h := je_iload_n D30_74 rfl rfl
theorem D30_75 : decode (jt_code 30) 75 = .ok (.bipush 64, 2) := by decide +kernel
theorem E30_75 {call : jv_F} {l0 l1 l2 l3 l4 : Option Value}  {st : List Value} {h : jv_H} : jv_ev call 30 75 [l0, l1, l2, l3, l4] st h = jv_ev call 30 77 [l0, l1, l2, l3, l4] (.int (nI 64) :: st) h := je_bipush D30_75 rfl (by decide)
theorem D30_77 : decode (jt_code 30) 77 = .ok (.iload_n 1, 1) := by decide +kernel
theorem E30_77 {call : jv_F} {l0 l2 l3 l4 : Option Value} {x : Int32} {st : List Value} {h : jv_H} : jv_ev call 30 77 [l0, some (.int x), l2, l3, l4] st h = jv_ev call 30 78 [l0, some (.int x), l2, l3, l4] (.int x :: st) h := je_iload_n D30_77 rfl rfl
theorem D30_78 : decode (jt_code 30) 78 = .ok (.imul, 1) := by decide +kernel
theorem E30_78 {call : jv_F} {l0 l1 l2 l3 l4 : Option Value} {x y : Int32} {st : List Value} {h : jv_H} : jv_ev call 30 78 [l0, l1, l2, l3, l4] (.int y :: .int x :: st) h = jv_ev call 30 79 [l0, l1, l2, l3, l4] (.int (x * y) :: st) h := je_b2 (f := fun x y => x * y) D30_78 rfl (fun _ => rfl)
theorem D30_79 : decode (jt_code 30) 79 = .ok (.bipush 64, 2) := by decide +kernel
theorem E30_79 {call : jv_F} {l0 l1 l2 l3 l4 : Option Value}  {st : List Value} {h : jv_H} : jv_ev call 30 79 [l0, l1, l2, l3, l4] st h = jv_ev call 30 81 [l0, l1, l2, l3, l4] (.int (nI 64) :: st) h := je_bipush D30_79 rfl (by decide)
theorem D30_81 : decode (jt_code 30) 81 = .ok (.iadd, 1) := by decide +kernel
theorem E30_81 {call : jv_F} {l0 l1 l2 l3 l4 : Option Value} {x y : Int32} {st : List Value} {h : jv_H} : jv_ev call 30 81 [l0, l1, l2, l3, l4] (.int y :: .int x :: st) h = jv_ev call 30 82 [l0, l1, l2, l3, l4] (.int (x + y) :: st) h := je_b2 (f := fun x y => x + y) D30_81 rfl (fun _ => rfl)
theorem D30_82 : decode (jt_code 30) 82 = .ok (.if_icmp .ge 76, 3) := by decide +kernel
theorem E30_82 {call : jv_F} {l0 l1 l2 l3 l4 : Option Value} {x y : Int32} {st : List Value} {h : jv_H} : jv_ev call 30 82 [l0, l1, l2, l3, l4] (.int y :: .int x :: st) h = if y ≤ x then jv_ev call 30 158 [l0, l1, l2, l3, l4] st h else jv_ev call 30 85 [l0, l1, l2, l3, l4] st h := je_icmp D30_82 (by decide) rfl rfl
theorem D30_85 : decode (jt_code 30) 85 = .ok (.aload_n 0, 1) := by decide +kernel
theorem E30_85 {call : jv_F} {l1 l2 l3 l4 : Option Value} {a : Nat} {st : List Value} {h : jv_H} : jv_ev call 30 85 [some (.ref a), l1, l2, l3, l4] st h = jv_ev call 30 86 [some (.ref a), l1, l2, l3, l4] (.ref a :: st) h := je_aload_n (r := some a) D30_85 rfl rfl
theorem D30_86 : decode (jt_code 30) 86 = .ok (.getfield 63, 3) := by decide +kernel
theorem E30_86 {call : jv_F} {l0 l1 l2 l3 l4 : Option Value}  {st : List Value} {m : Nat} {I : Nat → Int32} {A : Nat → Nat → Int32} {L : Nat → Nat → Int64} {rest : Nat → Option jv_C} {z : Nat × Nat} : jv_ev call 30 86 [l0, l1, l2, l3, l4] (.ref m :: st) (jm_H m I A L rest z) = jv_ev call 30 89 [l0, l1, l2, l3, l4] (.ref (m + 17) :: st) (jm_H m I A L rest z) := je_get D30_86 rfl (by decide) jm_g20
theorem D30_89 : decode (jt_code 30) 89 = .ok (.iload_n 3, 1) := by decide +kernel
theorem E30_89 {call : jv_F} {l0 l1 l2 l4 : Option Value} {x : Int32} {st : List Value} {h : jv_H} : jv_ev call 30 89 [l0, l1, l2, some (.int x), l4] st h = jv_ev call 30 90 [l0, l1, l2, some (.int x), l4] (.int x :: st) h := je_iload_n D30_89 rfl rfl
theorem D30_90 : decode (jt_code 30) 90 = .ok (.baload, 1) := by decide +kernel
theorem E30_90 {call : jv_F} {l0 l1 l2 l3 l4 : Option Value} {i : Nat} {st : List Value} {m : Nat} {I : Nat → Int32} {A : Nat → Nat → Int32} {L : Nat → Nat → Int64} {rest : Nat → Option jv_C} {z : Nat × Nat} (hi : i < 768) : jv_ev call 30 90 [l0, l1, l2, l3, l4] (.int (nI i) :: .ref (m + 17) :: st) (jm_H m I A L rest z) = jv_ev call 30 91 [l0, l1, l2, l3, l4] (.int (A 20 i) :: st) (jm_H m I A L rest z) := je_bald D30_90 rfl (jm_l20 hi)
theorem D30_91 : decode (jt_code 30) 91 = .ok (.ifCond .ne 6, 3) := by decide +kernel
theorem E30_91 {call : jv_F} {l0 l1 l2 l3 l4 : Option Value} {x : Int32} {st : List Value} {h : jv_H} : jv_ev call 30 91 [l0, l1, l2, l3, l4] (.int x :: st) h = if ¬ x = 0 then jv_ev call 30 97 [l0, l1, l2, l3, l4] st h else jv_ev call 30 94 [l0, l1, l2, l3, l4] st h := je_ifc D30_91 (by decide) rfl rfl
theorem D30_94 : decode (jt_code 30) 94 = .ok (.goto 58, 3) := by decide +kernel
theorem E30_94 {call : jv_F} {l0 l1 l2 l3 l4 : Option Value}  {st : List Value} {h : jv_H} : jv_ev call 30 94 [l0, l1, l2, l3, l4] st h = jv_ev call 30 152 [l0, l1, l2, l3, l4] st h := je_goto D30_94 (by decide)
theorem D30_97 : decode (jt_code 30) 97 = .ok (.aload_n 0, 1) := by decide +kernel
theorem E30_97 {call : jv_F} {l1 l2 l3 l4 : Option Value} {a : Nat} {st : List Value} {h : jv_H} : jv_ev call 30 97 [some (.ref a), l1, l2, l3, l4] st h = jv_ev call 30 98 [some (.ref a), l1, l2, l3, l4] (.ref a :: st) h := je_aload_n (r := some a) D30_97 rfl rfl
theorem D30_98 : decode (jt_code 30) 98 = .ok (.iload_n 3, 1) := by decide +kernel
theorem E30_98 {call : jv_F} {l0 l1 l2 l4 : Option Value} {x : Int32} {st : List Value} {h : jv_H} : jv_ev call 30 98 [l0, l1, l2, some (.int x), l4] st h = jv_ev call 30 99 [l0, l1, l2, some (.int x), l4] (.int x :: st) h := je_iload_n D30_98 rfl rfl
theorem D30_99 : decode (jt_code 30) 99 = .ok (.invokevirtual 117, 3) := by decide +kernel
theorem E30_99 {call : jv_F} {l0 l1 l2 l3 l4 : Option Value} {v0 : Value}  {st : List Value} {m : Nat} {I : Nat → Int32} {A : Nat → Nat → Int32} {L : Nat → Nat → Int64} {rest : Nat → Option jv_C} {z : Nat × Nat} (hw : jv_wide st = true) (hc : (call 8 [.ref m, v0] (jm_H m I A L rest z)).isSome = true) : jv_ev call 30 99 [l0, l1, l2, l3, l4] (v0 :: .ref m :: st) (jm_H m I A L rest z) = jv_ev call 30 102 [l0, l1, l2, l3, l4] ((((call 8 [.ref m, v0] (jm_H m I A L rest z)).getD (none, (jm_H m I A L rest z))).1).toList ++ st) ((call 8 [.ref m, v0] (jm_H m I A L rest z)).getD (none, (jm_H m I A L rest z))).2 := by
  obtain ⟨⟨r, h'⟩, hv⟩ := Option.isSome_iff_exists.mp hc
  rw [hv]
  exact je_virt (y := 8) (as := [v0]) D30_99 rfl (by decide) (by decide) rfl jm_cl hw hv
theorem D30_102 : decode (jt_code 30) 102 = .ok (.istore 4, 2) := by decide +kernel
theorem E30_102 {call : jv_F} {l0 l1 l2 l3 l4 : Option Value} {x : Int32} {st : List Value} {h : jv_H} (hk : ¬ jv_is2 (some l3) = true) : jv_ev call 30 102 [l0, l1, l2, l3, l4] (.int x :: st) h = jv_ev call 30 104 [l0, l1, l2, l3, some (.int x)] st h := je_istore D30_102 rfl (Nat.le_of_ble_eq_true rfl) (by show jv_st1 _ 4 _ = _; simp only [jv_st1, jv_kill, List.getElem?_cons_succ, List.getElem?_cons_zero, hk, if_false]; rfl)
theorem D30_104 : decode (jt_code 30) 104 = .ok (.iload 4, 2) := by decide +kernel
theorem E30_104 {call : jv_F} {l0 l1 l2 l3 : Option Value} {x : Int32} {st : List Value} {h : jv_H} : jv_ev call 30 104 [l0, l1, l2, l3, some (.int x)] st h = jv_ev call 30 106 [l0, l1, l2, l3, some (.int x)] (.int x :: st) h := je_iload D30_104 rfl rfl
theorem D30_106 : decode (jt_code 30) 106 = .ok (.ifCond .lt 16, 3) := by decide +kernel
theorem E30_106 {call : jv_F} {l0 l1 l2 l3 l4 : Option Value} {x : Int32} {st : List Value} {h : jv_H} : jv_ev call 30 106 [l0, l1, l2, l3, l4] (.int x :: st) h = if x < 0 then jv_ev call 30 122 [l0, l1, l2, l3, l4] st h else jv_ev call 30 109 [l0, l1, l2, l3, l4] st h := je_ifc D30_106 (by decide) rfl rfl
theorem D30_109 : decode (jt_code 30) 109 = .ok (.aload_n 0, 1) := by decide +kernel
theorem E30_109 {call : jv_F} {l1 l2 l3 l4 : Option Value} {a : Nat} {st : List Value} {h : jv_H} : jv_ev call 30 109 [some (.ref a), l1, l2, l3, l4] st h = jv_ev call 30 110 [some (.ref a), l1, l2, l3, l4] (.ref a :: st) h := je_aload_n (r := some a) D30_109 rfl rfl
theorem D30_110 : decode (jt_code 30) 110 = .ok (.getfield 79, 3) := by decide +kernel
theorem E30_110 {call : jv_F} {l0 l1 l2 l3 l4 : Option Value}  {st : List Value} {m : Nat} {I : Nat → Int32} {A : Nat → Nat → Int32} {L : Nat → Nat → Int64} {rest : Nat → Option jv_C} {z : Nat × Nat} : jv_ev call 30 110 [l0, l1, l2, l3, l4] (.ref m :: st) (jm_H m I A L rest z) = jv_ev call 30 113 [l0, l1, l2, l3, l4] (.ref (m + 22) :: st) (jm_H m I A L rest z) := je_get D30_110 rfl (by decide) jm_g26
theorem D30_113 : decode (jt_code 30) 113 = .ok (.iload 4, 2) := by decide +kernel
theorem E30_113 {call : jv_F} {l0 l1 l2 l3 : Option Value} {x : Int32} {st : List Value} {h : jv_H} : jv_ev call 30 113 [l0, l1, l2, l3, some (.int x)] st h = jv_ev call 30 115 [l0, l1, l2, l3, some (.int x)] (.int x :: st) h := je_iload D30_113 rfl rfl
theorem D30_115 : decode (jt_code 30) 115 = .ok (.baload, 1) := by decide +kernel
theorem E30_115 {call : jv_F} {l0 l1 l2 l3 l4 : Option Value} {i : Nat} {st : List Value} {m : Nat} {I : Nat → Int32} {A : Nat → Nat → Int32} {L : Nat → Nat → Int64} {rest : Nat → Option jv_C} {z : Nat × Nat} (hi : i < 17) : jv_ev call 30 115 [l0, l1, l2, l3, l4] (.int (nI i) :: .ref (m + 22) :: st) (jm_H m I A L rest z) = jv_ev call 30 116 [l0, l1, l2, l3, l4] (.int (A 26 i) :: st) (jm_H m I A L rest z) := je_bald D30_115 rfl (jm_l26 hi)
theorem D30_116 : decode (jt_code 30) 116 = .ok (.ifCond .eq 6, 3) := by decide +kernel
theorem E30_116 {call : jv_F} {l0 l1 l2 l3 l4 : Option Value} {x : Int32} {st : List Value} {h : jv_H} : jv_ev call 30 116 [l0, l1, l2, l3, l4] (.int x :: st) h = if x = 0 then jv_ev call 30 122 [l0, l1, l2, l3, l4] st h else jv_ev call 30 119 [l0, l1, l2, l3, l4] st h := je_ifc D30_116 (by decide) rfl rfl
theorem D30_119 : decode (jt_code 30) 119 = .ok (.goto 33, 3) := by decide +kernel
theorem E30_119 {call : jv_F} {l0 l1 l2 l3 l4 : Option Value}  {st : List Value} {h : jv_H} : jv_ev call 30 119 [l0, l1, l2, l3, l4] st h = jv_ev call 30 152 [l0, l1, l2, l3, l4] st h := je_goto D30_119 (by decide)
theorem D30_122 : decode (jt_code 30) 122 = .ok (.iload 4, 2) := by decide +kernel
theorem E30_122 {call : jv_F} {l0 l1 l2 l3 : Option Value} {x : Int32} {st : List Value} {h : jv_H} : jv_ev call 30 122 [l0, l1, l2, l3, some (.int x)] st h = jv_ev call 30 124 [l0, l1, l2, l3, some (.int x)] (.int x :: st) h := je_iload D30_122 rfl rfl
theorem D30_124 : decode (jt_code 30) 124 = .ok (.ifCond .lt 12, 3) := by decide +kernel
theorem E30_124 {call : jv_F} {l0 l1 l2 l3 l4 : Option Value} {x : Int32} {st : List Value} {h : jv_H} : jv_ev call 30 124 [l0, l1, l2, l3, l4] (.int x :: st) h = if x < 0 then jv_ev call 30 136 [l0, l1, l2, l3, l4] st h else jv_ev call 30 127 [l0, l1, l2, l3, l4] st h := je_ifc D30_124 (by decide) rfl rfl
theorem D30_127 : decode (jt_code 30) 127 = .ok (.aload_n 0, 1) := by decide +kernel
theorem E30_127 {call : jv_F} {l1 l2 l3 l4 : Option Value} {a : Nat} {st : List Value} {h : jv_H} : jv_ev call 30 127 [some (.ref a), l1, l2, l3, l4] st h = jv_ev call 30 128 [some (.ref a), l1, l2, l3, l4] (.ref a :: st) h := je_aload_n (r := some a) D30_127 rfl rfl
theorem D30_128 : decode (jt_code 30) 128 = .ok (.iload 4, 2) := by decide +kernel
theorem E30_128 {call : jv_F} {l0 l1 l2 l3 : Option Value} {x : Int32} {st : List Value} {h : jv_H} : jv_ev call 30 128 [l0, l1, l2, l3, some (.int x)] st h = jv_ev call 30 130 [l0, l1, l2, l3, some (.int x)] (.int x :: st) h := je_iload D30_128 rfl rfl
theorem D30_130 : decode (jt_code 30) 130 = .ok (.invokevirtual 179, 3) := by decide +kernel
theorem E30_130 {call : jv_F} {l0 l1 l2 l3 l4 : Option Value} {v0 : Value}  {st : List Value} {m : Nat} {I : Nat → Int32} {A : Nat → Nat → Int32} {L : Nat → Nat → Int64} {rest : Nat → Option jv_C} {z : Nat × Nat} (hw : jv_wide st = true) (hc : (call 20 [.ref m, v0] (jm_H m I A L rest z)).isSome = true) : jv_ev call 30 130 [l0, l1, l2, l3, l4] (v0 :: .ref m :: st) (jm_H m I A L rest z) = jv_ev call 30 133 [l0, l1, l2, l3, l4] ((((call 20 [.ref m, v0] (jm_H m I A L rest z)).getD (none, (jm_H m I A L rest z))).1).toList ++ st) ((call 20 [.ref m, v0] (jm_H m I A L rest z)).getD (none, (jm_H m I A L rest z))).2 := by
  obtain ⟨⟨r, h'⟩, hv⟩ := Option.isSome_iff_exists.mp hc
  rw [hv]
  exact je_virt (y := 20) (as := [v0]) D30_130 rfl (by decide) (by decide) rfl jm_cl hw hv
theorem D30_133 : decode (jt_code 30) 133 = .ok (.goto 14, 3) := by decide +kernel
theorem E30_133 {call : jv_F} {l0 l1 l2 l3 l4 : Option Value}  {st : List Value} {h : jv_H} : jv_ev call 30 133 [l0, l1, l2, l3, l4] st h = jv_ev call 30 147 [l0, l1, l2, l3, l4] st h := je_goto D30_133 (by decide)
theorem D30_136 : decode (jt_code 30) 136 = .ok (.aload_n 0, 1) := by decide +kernel
theorem E30_136 {call : jv_F} {l1 l2 l3 l4 : Option Value} {a : Nat} {st : List Value} {h : jv_H} : jv_ev call 30 136 [some (.ref a), l1, l2, l3, l4] st h = jv_ev call 30 137 [some (.ref a), l1, l2, l3, l4] (.ref a :: st) h := je_aload_n (r := some a) D30_136 rfl rfl
theorem D30_137 : decode (jt_code 30) 137 = .ok (.getfield 85, 3) := by decide +kernel
theorem E30_137 {call : jv_F} {l0 l1 l2 l3 l4 : Option Value}  {st : List Value} {m : Nat} {I : Nat → Int32} {A : Nat → Nat → Int32} {L : Nat → Nat → Int64} {rest : Nat → Option jv_C} {z : Nat × Nat} : jv_ev call 30 137 [l0, l1, l2, l3, l4] (.ref m :: st) (jm_H m I A L rest z) = jv_ev call 30 140 [l0, l1, l2, l3, l4] (.ref (m + 24) :: st) (jm_H m I A L rest z) := je_get D30_137 rfl (by decide) jm_g28
theorem D30_140 : decode (jt_code 30) 140 = .ok (.aload_n 0, 1) := by decide +kernel
theorem E30_140 {call : jv_F} {l1 l2 l3 l4 : Option Value} {a : Nat} {st : List Value} {h : jv_H} : jv_ev call 30 140 [some (.ref a), l1, l2, l3, l4] st h = jv_ev call 30 141 [some (.ref a), l1, l2, l3, l4] (.ref a :: st) h := je_aload_n (r := some a) D30_140 rfl rfl
theorem D30_141 : decode (jt_code 30) 141 = .ok (.iload_n 3, 1) := by decide +kernel
theorem E30_141 {call : jv_F} {l0 l1 l2 l4 : Option Value} {x : Int32} {st : List Value} {h : jv_H} : jv_ev call 30 141 [l0, l1, l2, some (.int x), l4] st h = jv_ev call 30 142 [l0, l1, l2, some (.int x), l4] (.int x :: st) h := je_iload_n D30_141 rfl rfl
theorem D30_142 : decode (jt_code 30) 142 = .ok (.invokevirtual 204, 3) := by decide +kernel
theorem E30_142 {call : jv_F} {l0 l1 l2 l3 l4 : Option Value} {v0 : Value}  {st : List Value} {m : Nat} {I : Nat → Int32} {A : Nat → Nat → Int32} {L : Nat → Nat → Int64} {rest : Nat → Option jv_C} {z : Nat × Nat} (hw : jv_wide st = true) (hc : (call 9 [.ref m, v0] (jm_H m I A L rest z)).isSome = true) : jv_ev call 30 142 [l0, l1, l2, l3, l4] (v0 :: .ref m :: st) (jm_H m I A L rest z) = jv_ev call 30 145 [l0, l1, l2, l3, l4] ((((call 9 [.ref m, v0] (jm_H m I A L rest z)).getD (none, (jm_H m I A L rest z))).1).toList ++ st) ((call 9 [.ref m, v0] (jm_H m I A L rest z)).getD (none, (jm_H m I A L rest z))).2 := by
  obtain ⟨⟨r, h'⟩, hv⟩ := Option.isSome_iff_exists.mp hc
  rw [hv]
  exact je_virt (y := 9) (as := [v0]) D30_142 rfl (by decide) (by decide) rfl jm_cl hw hv
theorem D30_145 : decode (jt_code 30) 145 = .ok (.iconst (-1), 1) := by decide +kernel
theorem E30_145 {call : jv_F} {l0 l1 l2 l3 l4 : Option Value}  {st : List Value} {h : jv_H} : jv_ev call 30 145 [l0, l1, l2, l3, l4] st h = jv_ev call 30 146 [l0, l1, l2, l3, l4] (.int (-1) :: st) h := je_iconst D30_145 rfl (by decide)
theorem D30_146 : decode (jt_code 30) 146 = .ok (.iastore, 1) := by decide +kernel
theorem E30_146 {call : jv_F} {l0 l1 l2 l3 l4 : Option Value} {i : Nat} {v : Int32} {st : List Value} {m : Nat} {I : Nat → Int32} {A : Nat → Nat → Int32} {L : Nat → Nat → Int64} {rest : Nat → Option jv_C} {z : Nat × Nat} (hi : i < 64) : jv_ev call 30 146 [l0, l1, l2, l3, l4] (.int v :: .int (nI i) :: .ref (m + 24) :: st) (jm_H m I A L rest z) = jv_ev call 30 147 [l0, l1, l2, l3, l4] st (jm_H m I (va_up A 28 (upd (A 28) i v)) L rest z) := je_iast D30_146 rfl (jm_s28 hi)
theorem D30_147 : decode (jt_code 30) 147 = .ok (.aload_n 0, 1) := by decide +kernel
theorem E30_147 {call : jv_F} {l1 l2 l3 l4 : Option Value} {a : Nat} {st : List Value} {h : jv_H} : jv_ev call 30 147 [some (.ref a), l1, l2, l3, l4] st h = jv_ev call 30 148 [some (.ref a), l1, l2, l3, l4] (.ref a :: st) h := je_aload_n (r := some a) D30_147 rfl rfl
theorem D30_148 : decode (jt_code 30) 148 = .ok (.iload_n 3, 1) := by decide +kernel
theorem E30_148 {call : jv_F} {l0 l1 l2 l4 : Option Value} {x : Int32} {st : List Value} {h : jv_H} : jv_ev call 30 148 [l0, l1, l2, some (.int x), l4] st h = jv_ev call 30 149 [l0, l1, l2, some (.int x), l4] (.int x :: st) h := je_iload_n D30_148 rfl rfl
theorem D30_149 : decode (jt_code 30) 149 = .ok (.invokevirtual 185, 3) := by decide +kernel
theorem E30_149 {call : jv_F} {l0 l1 l2 l3 l4 : Option Value} {v0 : Value}  {st : List Value} {m : Nat} {I : Nat → Int32} {A : Nat → Nat → Int32} {L : Nat → Nat → Int64} {rest : Nat → Option jv_C} {z : Nat × Nat} (hw : jv_wide st = true) (hc : (call 22 [.ref m, v0] (jm_H m I A L rest z)).isSome = true) : jv_ev call 30 149 [l0, l1, l2, l3, l4] (v0 :: .ref m :: st) (jm_H m I A L rest z) = jv_ev call 30 152 [l0, l1, l2, l3, l4] ((((call 22 [.ref m, v0] (jm_H m I A L rest z)).getD (none, (jm_H m I A L rest z))).1).toList ++ st) ((call 22 [.ref m, v0] (jm_H m I A L rest z)).getD (none, (jm_H m I A L rest z))).2 := by
  obtain ⟨⟨r, h'⟩, hv⟩ := Option.isSome_iff_exists.mp hc
  rw [hv]
  exact je_virt (y := 22) (as := [v0]) D30_149 rfl (by decide) (by decide) rfl jm_cl hw hv
theorem D30_152 : decode (jt_code 30) 152 = .ok (.iinc 3 1, 3) := by decide +kernel
theorem E30_152 {call : jv_F} {l0 l1 l2 l4 : Option Value} {x : Int32} {st : List Value} {h : jv_H} (hk : ¬ jv_is2 (some l2) = true) : jv_ev call 30 152 [l0, l1, l2, some (.int x), l4] st h = jv_ev call 30 155 [l0, l1, l2, some (.int (x + (nI 1))), l4] st h := je_iinc D30_152 rfl rfl (v := x + (nI 1)) (by rfl) (by show jv_st1 _ 3 _ = _; simp only [jv_st1, jv_kill, List.getElem?_cons_succ, List.getElem?_cons_zero, hk, if_false]; rfl)
theorem D30_155 : decode (jt_code 30) 155 = .ok (.goto (-81), 3) := by decide +kernel
theorem E30_155 {call : jv_F} {l0 l1 l2 l3 l4 : Option Value}  {st : List Value} {h : jv_H} : jv_ev call 30 155 [l0, l1, l2, l3, l4] st h = jv_ev call 30 74 [l0, l1, l2, l3, l4] st h := je_goto D30_155 (by decide)
theorem D30_158 : decode (jt_code 30) 158 = .ok (.return_, 1) := by decide +kernel
theorem E30_158 {call : jv_F} {l0 l1 l2 l3 l4 : Option Value}  {h : jv_H} : jv_ev call 30 158 [l0, l1, l2, l3, l4] [] h = some (none, h) := je_ret D30_158 rfl
/-! method 31: DrumMachineModel.comes -/
theorem N31 {d : Nat} {b : Nat} {a0 : Int32} {a1 : Int32} {h : jv_H} : jv_run (d + 1) 31 [.ref b, .int a0, .int a1] h = jv_ev (jv_run d) 31 0 [some (.ref b), some (.int a0), some (.int a1), none, none, none] [] h := jv_run_eq (Nat.le_of_ble_eq_true rfl) rfl
theorem D31_0 : decode (jt_code 31) 0 = .ok (.iload_n 2, 1) := by decide +kernel
theorem E31_0 {call : jv_F} {l0 l1 l3 l4 l5 : Option Value} {x : Int32} {st : List Value} {h : jv_H} : jv_ev call 31 0 [l0, l1, some (.int x), l3, l4, l5] st h = jv_ev call 31 1 [l0, l1, some (.int x), l3, l4, l5] (.int x :: st) h := je_iload_n D31_0 rfl rfl
theorem D31_1 : decode (jt_code 31) 1 = .ok (.invokestatic 129, 3) := by decide +kernel
theorem E31_1 {call : jv_F} {l0 l1 l2 l3 l4 l5 : Option Value} {v0 : Value}  {st : List Value} {h : jv_H} (hw : jv_wide st = true) (hc : (call 14 [v0] h).isSome = true) : jv_ev call 31 1 [l0, l1, l2, l3, l4, l5] (v0 :: st) h = jv_ev call 31 4 [l0, l1, l2, l3, l4, l5] ((((call 14 [v0] h).getD (none, h)).1).toList ++ st) ((call 14 [v0] h).getD (none, h)).2 := by
  obtain ⟨⟨r, h'⟩, hv⟩ := Option.isSome_iff_exists.mp hc
  rw [hv]
  exact je_stat (y := 14) (as := [v0]) D31_1 rfl (by decide) (by decide) rfl hw hv
theorem D31_4 : decode (jt_code 31) 4 = .ok (.ifCond .ne 11, 3) := by decide +kernel
theorem E31_4 {call : jv_F} {l0 l1 l2 l3 l4 l5 : Option Value} {x : Int32} {st : List Value} {h : jv_H} : jv_ev call 31 4 [l0, l1, l2, l3, l4, l5] (.int x :: st) h = if ¬ x = 0 then jv_ev call 31 15 [l0, l1, l2, l3, l4, l5] st h else jv_ev call 31 7 [l0, l1, l2, l3, l4, l5] st h := je_ifc D31_4 (by decide) rfl rfl
theorem D31_7 : decode (jt_code 31) 7 = .ok (.aload_n 0, 1) := by decide +kernel
theorem E31_7 {call : jv_F} {l1 l2 l3 l4 l5 : Option Value} {a : Nat} {st : List Value} {h : jv_H} : jv_ev call 31 7 [some (.ref a), l1, l2, l3, l4, l5] st h = jv_ev call 31 8 [some (.ref a), l1, l2, l3, l4, l5] (.ref a :: st) h := je_aload_n (r := some a) D31_7 rfl rfl
theorem D31_8 : decode (jt_code 31) 8 = .ok (.iload_n 1, 1) := by decide +kernel
theorem E31_8 {call : jv_F} {l0 l2 l3 l4 l5 : Option Value} {x : Int32} {st : List Value} {h : jv_H} : jv_ev call 31 8 [l0, some (.int x), l2, l3, l4, l5] st h = jv_ev call 31 9 [l0, some (.int x), l2, l3, l4, l5] (.int x :: st) h := je_iload_n D31_8 rfl rfl
theorem D31_9 : decode (jt_code 31) 9 = .ok (.iconst 4, 1) := by decide +kernel
theorem E31_9 {call : jv_F} {l0 l1 l2 l3 l4 l5 : Option Value}  {st : List Value} {h : jv_H} : jv_ev call 31 9 [l0, l1, l2, l3, l4, l5] st h = jv_ev call 31 10 [l0, l1, l2, l3, l4, l5] (.int (nI 4) :: st) h := je_iconst D31_9 rfl (by decide)
theorem D31_10 : decode (jt_code 31) 10 = .ok (.invokevirtual 219, 3) := by decide +kernel
theorem E31_10 {call : jv_F} {l0 l1 l2 l3 l4 l5 : Option Value} {v0 v1 : Value}  {st : List Value} {m : Nat} {I : Nat → Int32} {A : Nat → Nat → Int32} {L : Nat → Nat → Int64} {rest : Nat → Option jv_C} {z : Nat × Nat} (hw : jv_wide st = true) (hc : (call 30 [.ref m, v0, v1] (jm_H m I A L rest z)).isSome = true) : jv_ev call 31 10 [l0, l1, l2, l3, l4, l5] (v1 :: v0 :: .ref m :: st) (jm_H m I A L rest z) = jv_ev call 31 13 [l0, l1, l2, l3, l4, l5] ((((call 30 [.ref m, v0, v1] (jm_H m I A L rest z)).getD (none, (jm_H m I A L rest z))).1).toList ++ st) ((call 30 [.ref m, v0, v1] (jm_H m I A L rest z)).getD (none, (jm_H m I A L rest z))).2 := by
  obtain ⟨⟨r, h'⟩, hv⟩ := Option.isSome_iff_exists.mp hc
  rw [hv]
  exact je_virt (y := 30) (as := [v0, v1]) D31_10 rfl (by decide) (by decide) rfl jm_cl hw hv
theorem D31_13 : decode (jt_code 31) 13 = .ok (.iconst 0, 1) := by decide +kernel
theorem E31_13 {call : jv_F} {l0 l1 l2 l3 l4 l5 : Option Value}  {st : List Value} {h : jv_H} : jv_ev call 31 13 [l0, l1, l2, l3, l4, l5] st h = jv_ev call 31 14 [l0, l1, l2, l3, l4, l5] (.int (nI 0) :: st) h := je_iconst D31_13 rfl (by decide)
theorem D31_14 : decode (jt_code 31) 14 = .ok (.ireturn, 1) := by decide +kernel
theorem E31_14 {call : jv_F} {l0 l1 l2 l3 l4 l5 : Option Value} {v : Int32} {h : jv_H} (hn : narrow .boolean (.int v) = .int v) (hf : fits .boolean (.int v) = true) : jv_ev call 31 14 [l0, l1, l2, l3, l4, l5] [.int v] h = some (some (.int v), h) := je_iret (ty := .boolean) D31_14 rfl hn hf
theorem D31_15 : decode (jt_code 31) 15 = .ok (.iload_n 1, 1) := by decide +kernel
theorem E31_15 {call : jv_F} {l0 l2 l3 l4 l5 : Option Value} {x : Int32} {st : List Value} {h : jv_H} : jv_ev call 31 15 [l0, some (.int x), l2, l3, l4, l5] st h = jv_ev call 31 16 [l0, some (.int x), l2, l3, l4, l5] (.int x :: st) h := je_iload_n D31_15 rfl rfl
theorem D31_16 : decode (jt_code 31) 16 = .ok (.iload_n 2, 1) := by decide +kernel
theorem E31_16 {call : jv_F} {l0 l1 l3 l4 l5 : Option Value} {x : Int32} {st : List Value} {h : jv_H} : jv_ev call 31 16 [l0, l1, some (.int x), l3, l4, l5] st h = jv_ev call 31 17 [l0, l1, some (.int x), l3, l4, l5] (.int x :: st) h := je_iload_n D31_16 rfl rfl
theorem D31_17 : decode (jt_code 31) 17 = .ok (.invokestatic 132, 3) := by decide +kernel
theorem E31_17 {call : jv_F} {l0 l1 l2 l3 l4 l5 : Option Value} {v0 v1 : Value}  {st : List Value} {h : jv_H} (hw : jv_wide st = true) (hc : (call 15 [v0, v1] h).isSome = true) : jv_ev call 31 17 [l0, l1, l2, l3, l4, l5] (v1 :: v0 :: st) h = jv_ev call 31 20 [l0, l1, l2, l3, l4, l5] ((((call 15 [v0, v1] h).getD (none, h)).1).toList ++ st) ((call 15 [v0, v1] h).getD (none, h)).2 := by
  obtain ⟨⟨r, h'⟩, hv⟩ := Option.isSome_iff_exists.mp hc
  rw [hv]
  exact je_stat (y := 15) (as := [v0, v1]) D31_17 rfl (by decide) (by decide) rfl hw hv
theorem D31_20 : decode (jt_code 31) 20 = .ok (.istore_n 3, 1) := by decide +kernel
theorem E31_20 {call : jv_F} {l0 l1 l2 l3 l4 l5 : Option Value} {x : Int32} {st : List Value} {h : jv_H} (hk : ¬ jv_is2 (some l2) = true) : jv_ev call 31 20 [l0, l1, l2, l3, l4, l5] (.int x :: st) h = jv_ev call 31 21 [l0, l1, l2, some (.int x), l4, l5] st h := je_istore_n D31_20 rfl (Nat.le_of_ble_eq_true rfl) (by show jv_st1 _ 3 _ = _; simp only [jv_st1, jv_kill, List.getElem?_cons_succ, List.getElem?_cons_zero, hk, if_false]; rfl)
theorem D31_21 : decode (jt_code 31) 21 = .ok (.aload_n 0, 1) := by decide +kernel
theorem E31_21 {call : jv_F} {l1 l2 l3 l4 l5 : Option Value} {a : Nat} {st : List Value} {h : jv_H} : jv_ev call 31 21 [some (.ref a), l1, l2, l3, l4, l5] st h = jv_ev call 31 22 [some (.ref a), l1, l2, l3, l4, l5] (.ref a :: st) h := je_aload_n (r := some a) D31_21 rfl rfl
theorem D31_22 : decode (jt_code 31) 22 = .ok (.iload_n 3, 1) := by decide +kernel
theorem E31_22 {call : jv_F} {l0 l1 l2 l4 l5 : Option Value} {x : Int32} {st : List Value} {h : jv_H} : jv_ev call 31 22 [l0, l1, l2, some (.int x), l4, l5] st h = jv_ev call 31 23 [l0, l1, l2, some (.int x), l4, l5] (.int x :: st) h := je_iload_n D31_22 rfl rfl
theorem D31_23 : decode (jt_code 31) 23 = .ok (.invokevirtual 117, 3) := by decide +kernel
theorem E31_23 {call : jv_F} {l0 l1 l2 l3 l4 l5 : Option Value} {v0 : Value}  {st : List Value} {m : Nat} {I : Nat → Int32} {A : Nat → Nat → Int32} {L : Nat → Nat → Int64} {rest : Nat → Option jv_C} {z : Nat × Nat} (hw : jv_wide st = true) (hc : (call 8 [.ref m, v0] (jm_H m I A L rest z)).isSome = true) : jv_ev call 31 23 [l0, l1, l2, l3, l4, l5] (v0 :: .ref m :: st) (jm_H m I A L rest z) = jv_ev call 31 26 [l0, l1, l2, l3, l4, l5] ((((call 8 [.ref m, v0] (jm_H m I A L rest z)).getD (none, (jm_H m I A L rest z))).1).toList ++ st) ((call 8 [.ref m, v0] (jm_H m I A L rest z)).getD (none, (jm_H m I A L rest z))).2 := by
  obtain ⟨⟨r, h'⟩, hv⟩ := Option.isSome_iff_exists.mp hc
  rw [hv]
  exact je_virt (y := 8) (as := [v0]) D31_23 rfl (by decide) (by decide) rfl jm_cl hw hv
theorem D31_26 : decode (jt_code 31) 26 = .ok (.istore 4, 2) := by decide +kernel
theorem E31_26 {call : jv_F} {l0 l1 l2 l3 l4 l5 : Option Value} {x : Int32} {st : List Value} {h : jv_H} (hk : ¬ jv_is2 (some l3) = true) : jv_ev call 31 26 [l0, l1, l2, l3, l4, l5] (.int x :: st) h = jv_ev call 31 28 [l0, l1, l2, l3, some (.int x), l5] st h := je_istore D31_26 rfl (Nat.le_of_ble_eq_true rfl) (by show jv_st1 _ 4 _ = _; simp only [jv_st1, jv_kill, List.getElem?_cons_succ, List.getElem?_cons_zero, hk, if_false]; rfl)
theorem D31_28 : decode (jt_code 31) 28 = .ok (.iload 4, 2) := by decide +kernel
theorem E31_28 {call : jv_F} {l0 l1 l2 l3 l5 : Option Value} {x : Int32} {st : List Value} {h : jv_H} : jv_ev call 31 28 [l0, l1, l2, l3, some (.int x), l5] st h = jv_ev call 31 30 [l0, l1, l2, l3, some (.int x), l5] (.int x :: st) h := je_iload D31_28 rfl rfl
theorem D31_30 : decode (jt_code 31) 30 = .ok (.ifCond .lt 15, 3) := by decide +kernel
theorem E31_30 {call : jv_F} {l0 l1 l2 l3 l4 l5 : Option Value} {x : Int32} {st : List Value} {h : jv_H} : jv_ev call 31 30 [l0, l1, l2, l3, l4, l5] (.int x :: st) h = if x < 0 then jv_ev call 31 45 [l0, l1, l2, l3, l4, l5] st h else jv_ev call 31 33 [l0, l1, l2, l3, l4, l5] st h := je_ifc D31_30 (by decide) rfl rfl
theorem D31_33 : decode (jt_code 31) 33 = .ok (.aload_n 0, 1) := by decide +kernel
theorem E31_33 {call : jv_F} {l1 l2 l3 l4 l5 : Option Value} {a : Nat} {st : List Value} {h : jv_H} : jv_ev call 31 33 [some (.ref a), l1, l2, l3, l4, l5] st h = jv_ev call 31 34 [some (.ref a), l1, l2, l3, l4, l5] (.ref a :: st) h := je_aload_n (r := some a) D31_33 rfl rfl
theorem D31_34 : decode (jt_code 31) 34 = .ok (.getfield 79, 3) := by decide +kernel
theorem E31_34 {call : jv_F} {l0 l1 l2 l3 l4 l5 : Option Value}  {st : List Value} {m : Nat} {I : Nat → Int32} {A : Nat → Nat → Int32} {L : Nat → Nat → Int64} {rest : Nat → Option jv_C} {z : Nat × Nat} : jv_ev call 31 34 [l0, l1, l2, l3, l4, l5] (.ref m :: st) (jm_H m I A L rest z) = jv_ev call 31 37 [l0, l1, l2, l3, l4, l5] (.ref (m + 22) :: st) (jm_H m I A L rest z) := je_get D31_34 rfl (by decide) jm_g26
theorem D31_37 : decode (jt_code 31) 37 = .ok (.iload 4, 2) := by decide +kernel
theorem E31_37 {call : jv_F} {l0 l1 l2 l3 l5 : Option Value} {x : Int32} {st : List Value} {h : jv_H} : jv_ev call 31 37 [l0, l1, l2, l3, some (.int x), l5] st h = jv_ev call 31 39 [l0, l1, l2, l3, some (.int x), l5] (.int x :: st) h := je_iload D31_37 rfl rfl
theorem D31_39 : decode (jt_code 31) 39 = .ok (.baload, 1) := by decide +kernel
theorem E31_39 {call : jv_F} {l0 l1 l2 l3 l4 l5 : Option Value} {i : Nat} {st : List Value} {m : Nat} {I : Nat → Int32} {A : Nat → Nat → Int32} {L : Nat → Nat → Int64} {rest : Nat → Option jv_C} {z : Nat × Nat} (hi : i < 17) : jv_ev call 31 39 [l0, l1, l2, l3, l4, l5] (.int (nI i) :: .ref (m + 22) :: st) (jm_H m I A L rest z) = jv_ev call 31 40 [l0, l1, l2, l3, l4, l5] (.int (A 26 i) :: st) (jm_H m I A L rest z) := je_bald D31_39 rfl (jm_l26 hi)
theorem D31_40 : decode (jt_code 31) 40 = .ok (.ifCond .ne 5, 3) := by decide +kernel
theorem E31_40 {call : jv_F} {l0 l1 l2 l3 l4 l5 : Option Value} {x : Int32} {st : List Value} {h : jv_H} : jv_ev call 31 40 [l0, l1, l2, l3, l4, l5] (.int x :: st) h = if ¬ x = 0 then jv_ev call 31 45 [l0, l1, l2, l3, l4, l5] st h else jv_ev call 31 43 [l0, l1, l2, l3, l4, l5] st h := je_ifc D31_40 (by decide) rfl rfl
theorem D31_43 : decode (jt_code 31) 43 = .ok (.iconst 1, 1) := by decide +kernel
theorem E31_43 {call : jv_F} {l0 l1 l2 l3 l4 l5 : Option Value}  {st : List Value} {h : jv_H} : jv_ev call 31 43 [l0, l1, l2, l3, l4, l5] st h = jv_ev call 31 44 [l0, l1, l2, l3, l4, l5] (.int (nI 1) :: st) h := je_iconst D31_43 rfl (by decide)
theorem D31_44 : decode (jt_code 31) 44 = .ok (.ireturn, 1) := by decide +kernel
theorem E31_44 {call : jv_F} {l0 l1 l2 l3 l4 l5 : Option Value} {v : Int32} {h : jv_H} (hn : narrow .boolean (.int v) = .int v) (hf : fits .boolean (.int v) = true) : jv_ev call 31 44 [l0, l1, l2, l3, l4, l5] [.int v] h = some (some (.int v), h) := je_iret (ty := .boolean) D31_44 rfl hn hf
theorem D31_45 : decode (jt_code 31) 45 = .ok (.aload_n 0, 1) := by decide +kernel
theorem E31_45 {call : jv_F} {l1 l2 l3 l4 l5 : Option Value} {a : Nat} {st : List Value} {h : jv_H} : jv_ev call 31 45 [some (.ref a), l1, l2, l3, l4, l5] st h = jv_ev call 31 46 [some (.ref a), l1, l2, l3, l4, l5] (.ref a :: st) h := je_aload_n (r := some a) D31_45 rfl rfl
theorem D31_46 : decode (jt_code 31) 46 = .ok (.getfield 63, 3) := by decide +kernel
theorem E31_46 {call : jv_F} {l0 l1 l2 l3 l4 l5 : Option Value}  {st : List Value} {m : Nat} {I : Nat → Int32} {A : Nat → Nat → Int32} {L : Nat → Nat → Int64} {rest : Nat → Option jv_C} {z : Nat × Nat} : jv_ev call 31 46 [l0, l1, l2, l3, l4, l5] (.ref m :: st) (jm_H m I A L rest z) = jv_ev call 31 49 [l0, l1, l2, l3, l4, l5] (.ref (m + 17) :: st) (jm_H m I A L rest z) := je_get D31_46 rfl (by decide) jm_g20
theorem D31_49 : decode (jt_code 31) 49 = .ok (.iload_n 3, 1) := by decide +kernel
theorem E31_49 {call : jv_F} {l0 l1 l2 l4 l5 : Option Value} {x : Int32} {st : List Value} {h : jv_H} : jv_ev call 31 49 [l0, l1, l2, some (.int x), l4, l5] st h = jv_ev call 31 50 [l0, l1, l2, some (.int x), l4, l5] (.int x :: st) h := je_iload_n D31_49 rfl rfl
theorem D31_50 : decode (jt_code 31) 50 = .ok (.baload, 1) := by decide +kernel
theorem E31_50 {call : jv_F} {l0 l1 l2 l3 l4 l5 : Option Value} {i : Nat} {st : List Value} {m : Nat} {I : Nat → Int32} {A : Nat → Nat → Int32} {L : Nat → Nat → Int64} {rest : Nat → Option jv_C} {z : Nat × Nat} (hi : i < 768) : jv_ev call 31 50 [l0, l1, l2, l3, l4, l5] (.int (nI i) :: .ref (m + 17) :: st) (jm_H m I A L rest z) = jv_ev call 31 51 [l0, l1, l2, l3, l4, l5] (.int (A 20 i) :: st) (jm_H m I A L rest z) := je_bald D31_50 rfl (jm_l20 hi)
theorem D31_51 : decode (jt_code 31) 51 = .ok (.ifCond .ne 20, 3) := by decide +kernel
theorem E31_51 {call : jv_F} {l0 l1 l2 l3 l4 l5 : Option Value} {x : Int32} {st : List Value} {h : jv_H} : jv_ev call 31 51 [l0, l1, l2, l3, l4, l5] (.int x :: st) h = if ¬ x = 0 then jv_ev call 31 71 [l0, l1, l2, l3, l4, l5] st h else jv_ev call 31 54 [l0, l1, l2, l3, l4, l5] st h := je_ifc D31_51 (by decide) rfl rfl
theorem D31_54 : decode (jt_code 31) 54 = .ok (.aload_n 0, 1) := by decide +kernel
theorem E31_54 {call : jv_F} {l1 l2 l3 l4 l5 : Option Value} {a : Nat} {st : List Value} {h : jv_H} : jv_ev call 31 54 [some (.ref a), l1, l2, l3, l4, l5] st h = jv_ev call 31 55 [some (.ref a), l1, l2, l3, l4, l5] (.ref a :: st) h := je_aload_n (r := some a) D31_54 rfl rfl
theorem D31_55 : decode (jt_code 31) 55 = .ok (.getfield 110, 3) := by decide +kernel
theorem E31_55 {call : jv_F} {l0 l1 l2 l3 l4 l5 : Option Value}  {st : List Value} {m : Nat} {I : Nat → Int32} {A : Nat → Nat → Int32} {L : Nat → Nat → Int64} {rest : Nat → Option jv_C} {z : Nat × Nat} : jv_ev call 31 55 [l0, l1, l2, l3, l4, l5] (.ref m :: st) (jm_H m I A L rest z) = jv_ev call 31 58 [l0, l1, l2, l3, l4, l5] (.int (I 22) :: st) (jm_H m I A L rest z) := je_get D31_55 rfl (by decide) jm_g22
theorem D31_58 : decode (jt_code 31) 58 = .ok (.bipush 64, 2) := by decide +kernel
theorem E31_58 {call : jv_F} {l0 l1 l2 l3 l4 l5 : Option Value}  {st : List Value} {h : jv_H} : jv_ev call 31 58 [l0, l1, l2, l3, l4, l5] st h = jv_ev call 31 60 [l0, l1, l2, l3, l4, l5] (.int (nI 64) :: st) h := je_bipush D31_58 rfl (by decide)
theorem D31_60 : decode (jt_code 31) 60 = .ok (.if_icmp .ne 11, 3) := by decide +kernel
theorem E31_60 {call : jv_F} {l0 l1 l2 l3 l4 l5 : Option Value} {x y : Int32} {st : List Value} {h : jv_H} : jv_ev call 31 60 [l0, l1, l2, l3, l4, l5] (.int y :: .int x :: st) h = if ¬ x = y then jv_ev call 31 71 [l0, l1, l2, l3, l4, l5] st h else jv_ev call 31 63 [l0, l1, l2, l3, l4, l5] st h := je_icmp D31_60 (by decide) rfl rfl
theorem D31_63 : decode (jt_code 31) 63 = .ok (.aload_n 0, 1) := by decide +kernel
theorem E31_63 {call : jv_F} {l1 l2 l3 l4 l5 : Option Value} {a : Nat} {st : List Value} {h : jv_H} : jv_ev call 31 63 [some (.ref a), l1, l2, l3, l4, l5] st h = jv_ev call 31 64 [some (.ref a), l1, l2, l3, l4, l5] (.ref a :: st) h := je_aload_n (r := some a) D31_63 rfl rfl
theorem D31_64 : decode (jt_code 31) 64 = .ok (.iload_n 1, 1) := by decide +kernel
theorem E31_64 {call : jv_F} {l0 l2 l3 l4 l5 : Option Value} {x : Int32} {st : List Value} {h : jv_H} : jv_ev call 31 64 [l0, some (.int x), l2, l3, l4, l5] st h = jv_ev call 31 65 [l0, some (.int x), l2, l3, l4, l5] (.int x :: st) h := je_iload_n D31_64 rfl rfl
theorem D31_65 : decode (jt_code 31) 65 = .ok (.iconst 5, 1) := by decide +kernel
theorem E31_65 {call : jv_F} {l0 l1 l2 l3 l4 l5 : Option Value}  {st : List Value} {h : jv_H} : jv_ev call 31 65 [l0, l1, l2, l3, l4, l5] st h = jv_ev call 31 66 [l0, l1, l2, l3, l4, l5] (.int (nI 5) :: st) h := je_iconst D31_65 rfl (by decide)
theorem D31_66 : decode (jt_code 31) 66 = .ok (.invokevirtual 219, 3) := by decide +kernel
theorem E31_66 {call : jv_F} {l0 l1 l2 l3 l4 l5 : Option Value} {v0 v1 : Value}  {st : List Value} {m : Nat} {I : Nat → Int32} {A : Nat → Nat → Int32} {L : Nat → Nat → Int64} {rest : Nat → Option jv_C} {z : Nat × Nat} (hw : jv_wide st = true) (hc : (call 30 [.ref m, v0, v1] (jm_H m I A L rest z)).isSome = true) : jv_ev call 31 66 [l0, l1, l2, l3, l4, l5] (v1 :: v0 :: .ref m :: st) (jm_H m I A L rest z) = jv_ev call 31 69 [l0, l1, l2, l3, l4, l5] ((((call 30 [.ref m, v0, v1] (jm_H m I A L rest z)).getD (none, (jm_H m I A L rest z))).1).toList ++ st) ((call 30 [.ref m, v0, v1] (jm_H m I A L rest z)).getD (none, (jm_H m I A L rest z))).2 := by
  obtain ⟨⟨r, h'⟩, hv⟩ := Option.isSome_iff_exists.mp hc
  rw [hv]
  exact je_virt (y := 30) (as := [v0, v1]) D31_66 rfl (by decide) (by decide) rfl jm_cl hw hv
theorem D31_69 : decode (jt_code 31) 69 = .ok (.iconst 0, 1) := by decide +kernel
theorem E31_69 {call : jv_F} {l0 l1 l2 l3 l4 l5 : Option Value}  {st : List Value} {h : jv_H} : jv_ev call 31 69 [l0, l1, l2, l3, l4, l5] st h = jv_ev call 31 70 [l0, l1, l2, l3, l4, l5] (.int (nI 0) :: st) h := je_iconst D31_69 rfl (by decide)
theorem D31_70 : decode (jt_code 31) 70 = .ok (.ireturn, 1) := by decide +kernel
theorem E31_70 {call : jv_F} {l0 l1 l2 l3 l4 l5 : Option Value} {v : Int32} {h : jv_H} (hn : narrow .boolean (.int v) = .int v) (hf : fits .boolean (.int v) = true) : jv_ev call 31 70 [l0, l1, l2, l3, l4, l5] [.int v] h = some (some (.int v), h) := je_iret (ty := .boolean) D31_70 rfl hn hf
theorem D31_71 : decode (jt_code 31) 71 = .ok (.aload_n 0, 1) := by decide +kernel
theorem E31_71 {call : jv_F} {l1 l2 l3 l4 l5 : Option Value} {a : Nat} {st : List Value} {h : jv_H} : jv_ev call 31 71 [some (.ref a), l1, l2, l3, l4, l5] st h = jv_ev call 31 72 [some (.ref a), l1, l2, l3, l4, l5] (.ref a :: st) h := je_aload_n (r := some a) D31_71 rfl rfl
theorem D31_72 : decode (jt_code 31) 72 = .ok (.invokevirtual 121, 3) := by decide +kernel
theorem E31_72 {call : jv_F} {l0 l1 l2 l3 l4 l5 : Option Value}  {st : List Value} {m : Nat} {I : Nat → Int32} {A : Nat → Nat → Int32} {L : Nat → Nat → Int64} {rest : Nat → Option jv_C} {z : Nat × Nat} (hw : jv_wide st = true) (hc : (call 10 [.ref m] (jm_H m I A L rest z)).isSome = true) : jv_ev call 31 72 [l0, l1, l2, l3, l4, l5] (.ref m :: st) (jm_H m I A L rest z) = jv_ev call 31 75 [l0, l1, l2, l3, l4, l5] ((((call 10 [.ref m] (jm_H m I A L rest z)).getD (none, (jm_H m I A L rest z))).1).toList ++ st) ((call 10 [.ref m] (jm_H m I A L rest z)).getD (none, (jm_H m I A L rest z))).2 := by
  obtain ⟨⟨r, h'⟩, hv⟩ := Option.isSome_iff_exists.mp hc
  rw [hv]
  exact je_virt (y := 10) (as := []) D31_72 rfl (by decide) (by decide) rfl jm_cl hw hv
theorem D31_75 : decode (jt_code 31) 75 = .ok (.istore 5, 2) := by decide +kernel
theorem E31_75 {call : jv_F} {l0 l1 l2 l3 l4 l5 : Option Value} {x : Int32} {st : List Value} {h : jv_H} (hk : ¬ jv_is2 (some l4) = true) : jv_ev call 31 75 [l0, l1, l2, l3, l4, l5] (.int x :: st) h = jv_ev call 31 77 [l0, l1, l2, l3, l4, some (.int x)] st h := je_istore D31_75 rfl (Nat.le_of_ble_eq_true rfl) (by show jv_st1 _ 5 _ = _; simp only [jv_st1, jv_kill, List.getElem?_cons_succ, List.getElem?_cons_zero, hk, if_false]; rfl)
theorem D31_77 : decode (jt_code 31) 77 = .ok (.aload_n 0, 1) := by decide +kernel
theorem E31_77 {call : jv_F} {l1 l2 l3 l4 l5 : Option Value} {a : Nat} {st : List Value} {h : jv_H} : jv_ev call 31 77 [some (.ref a), l1, l2, l3, l4, l5] st h = jv_ev call 31 78 [some (.ref a), l1, l2, l3, l4, l5] (.ref a :: st) h := je_aload_n (r := some a) D31_77 rfl rfl
theorem D31_78 : decode (jt_code 31) 78 = .ok (.getfield 63, 3) := by decide +kernel
theorem E31_78 {call : jv_F} {l0 l1 l2 l3 l4 l5 : Option Value}  {st : List Value} {m : Nat} {I : Nat → Int32} {A : Nat → Nat → Int32} {L : Nat → Nat → Int64} {rest : Nat → Option jv_C} {z : Nat × Nat} : jv_ev call 31 78 [l0, l1, l2, l3, l4, l5] (.ref m :: st) (jm_H m I A L rest z) = jv_ev call 31 81 [l0, l1, l2, l3, l4, l5] (.ref (m + 17) :: st) (jm_H m I A L rest z) := je_get D31_78 rfl (by decide) jm_g20
theorem D31_81 : decode (jt_code 31) 81 = .ok (.iload_n 3, 1) := by decide +kernel
theorem E31_81 {call : jv_F} {l0 l1 l2 l4 l5 : Option Value} {x : Int32} {st : List Value} {h : jv_H} : jv_ev call 31 81 [l0, l1, l2, some (.int x), l4, l5] st h = jv_ev call 31 82 [l0, l1, l2, some (.int x), l4, l5] (.int x :: st) h := je_iload_n D31_81 rfl rfl
theorem D31_82 : decode (jt_code 31) 82 = .ok (.baload, 1) := by decide +kernel
theorem E31_82 {call : jv_F} {l0 l1 l2 l3 l4 l5 : Option Value} {i : Nat} {st : List Value} {m : Nat} {I : Nat → Int32} {A : Nat → Nat → Int32} {L : Nat → Nat → Int64} {rest : Nat → Option jv_C} {z : Nat × Nat} (hi : i < 768) : jv_ev call 31 82 [l0, l1, l2, l3, l4, l5] (.int (nI i) :: .ref (m + 17) :: st) (jm_H m I A L rest z) = jv_ev call 31 83 [l0, l1, l2, l3, l4, l5] (.int (A 20 i) :: st) (jm_H m I A L rest z) := je_bald D31_82 rfl (jm_l20 hi)
theorem D31_83 : decode (jt_code 31) 83 = .ok (.ifCond .ne 36, 3) := by decide +kernel
theorem E31_83 {call : jv_F} {l0 l1 l2 l3 l4 l5 : Option Value} {x : Int32} {st : List Value} {h : jv_H} : jv_ev call 31 83 [l0, l1, l2, l3, l4, l5] (.int x :: st) h = if ¬ x = 0 then jv_ev call 31 119 [l0, l1, l2, l3, l4, l5] st h else jv_ev call 31 86 [l0, l1, l2, l3, l4, l5] st h := je_ifc D31_83 (by decide) rfl rfl
theorem D31_86 : decode (jt_code 31) 86 = .ok (.iload 5, 2) := by decide +kernel
theorem E31_86 {call : jv_F} {l0 l1 l2 l3 l4 : Option Value} {x : Int32} {st : List Value} {h : jv_H} : jv_ev call 31 86 [l0, l1, l2, l3, l4, some (.int x)] st h = jv_ev call 31 88 [l0, l1, l2, l3, l4, some (.int x)] (.int x :: st) h := je_iload D31_86 rfl rfl
theorem D31_88 : decode (jt_code 31) 88 = .ok (.ifCond .lt 31, 3) := by decide +kernel
theorem E31_88 {call : jv_F} {l0 l1 l2 l3 l4 l5 : Option Value} {x : Int32} {st : List Value} {h : jv_H} : jv_ev call 31 88 [l0, l1, l2, l3, l4, l5] (.int x :: st) h = if x < 0 then jv_ev call 31 119 [l0, l1, l2, l3, l4, l5] st h else jv_ev call 31 91 [l0, l1, l2, l3, l4, l5] st h := je_ifc D31_88 (by decide) rfl rfl
theorem D31_91 : decode (jt_code 31) 91 = .ok (.aload_n 0, 1) := by decide +kernel
theorem E31_91 {call : jv_F} {l1 l2 l3 l4 l5 : Option Value} {a : Nat} {st : List Value} {h : jv_H} : jv_ev call 31 91 [some (.ref a), l1, l2, l3, l4, l5] st h = jv_ev call 31 92 [some (.ref a), l1, l2, l3, l4, l5] (.ref a :: st) h := je_aload_n (r := some a) D31_91 rfl rfl
theorem D31_92 : decode (jt_code 31) 92 = .ok (.iload_n 3, 1) := by decide +kernel
theorem E31_92 {call : jv_F} {l0 l1 l2 l4 l5 : Option Value} {x : Int32} {st : List Value} {h : jv_H} : jv_ev call 31 92 [l0, l1, l2, some (.int x), l4, l5] st h = jv_ev call 31 93 [l0, l1, l2, some (.int x), l4, l5] (.int x :: st) h := je_iload_n D31_92 rfl rfl
theorem D31_93 : decode (jt_code 31) 93 = .ok (.invokevirtual 113, 3) := by decide +kernel
theorem E31_93 {call : jv_F} {l0 l1 l2 l3 l4 l5 : Option Value} {v0 : Value}  {st : List Value} {m : Nat} {I : Nat → Int32} {A : Nat → Nat → Int32} {L : Nat → Nat → Int64} {rest : Nat → Option jv_C} {z : Nat × Nat} (hw : jv_wide st = true) (hc : (call 7 [.ref m, v0] (jm_H m I A L rest z)).isSome = true) : jv_ev call 31 93 [l0, l1, l2, l3, l4, l5] (v0 :: .ref m :: st) (jm_H m I A L rest z) = jv_ev call 31 96 [l0, l1, l2, l3, l4, l5] ((((call 7 [.ref m, v0] (jm_H m I A L rest z)).getD (none, (jm_H m I A L rest z))).1).toList ++ st) ((call 7 [.ref m, v0] (jm_H m I A L rest z)).getD (none, (jm_H m I A L rest z))).2 := by
  obtain ⟨⟨r, h'⟩, hv⟩ := Option.isSome_iff_exists.mp hc
  rw [hv]
  exact je_virt (y := 7) (as := [v0]) D31_93 rfl (by decide) (by decide) rfl jm_cl hw hv
theorem D31_96 : decode (jt_code 31) 96 = .ok (.aload_n 0, 1) := by decide +kernel
theorem E31_96 {call : jv_F} {l1 l2 l3 l4 l5 : Option Value} {a : Nat} {st : List Value} {h : jv_H} : jv_ev call 31 96 [some (.ref a), l1, l2, l3, l4, l5] st h = jv_ev call 31 97 [some (.ref a), l1, l2, l3, l4, l5] (.ref a :: st) h := je_aload_n (r := some a) D31_96 rfl rfl
theorem D31_97 : decode (jt_code 31) 97 = .ok (.getfield 67, 3) := by decide +kernel
theorem E31_97 {call : jv_F} {l0 l1 l2 l3 l4 l5 : Option Value}  {st : List Value} {m : Nat} {I : Nat → Int32} {A : Nat → Nat → Int32} {L : Nat → Nat → Int64} {rest : Nat → Option jv_C} {z : Nat × Nat} : jv_ev call 31 97 [l0, l1, l2, l3, l4, l5] (.ref m :: st) (jm_H m I A L rest z) = jv_ev call 31 100 [l0, l1, l2, l3, l4, l5] (.ref (m + 18) :: st) (jm_H m I A L rest z) := je_get D31_97 rfl (by decide) jm_g21
theorem D31_100 : decode (jt_code 31) 100 = .ok (.iload_n 3, 1) := by decide +kernel
theorem E31_100 {call : jv_F} {l0 l1 l2 l4 l5 : Option Value} {x : Int32} {st : List Value} {h : jv_H} : jv_ev call 31 100 [l0, l1, l2, some (.int x), l4, l5] st h = jv_ev call 31 101 [l0, l1, l2, some (.int x), l4, l5] (.int x :: st) h := je_iload_n D31_100 rfl rfl
theorem D31_101 : decode (jt_code 31) 101 = .ok (.iconst (-1), 1) := by decide +kernel
theorem E31_101 {call : jv_F} {l0 l1 l2 l3 l4 l5 : Option Value}  {st : List Value} {h : jv_H} : jv_ev call 31 101 [l0, l1, l2, l3, l4, l5] st h = jv_ev call 31 102 [l0, l1, l2, l3, l4, l5] (.int (-1) :: st) h := je_iconst D31_101 rfl (by decide)
theorem D31_102 : decode (jt_code 31) 102 = .ok (.iastore, 1) := by decide +kernel
theorem E31_102 {call : jv_F} {l0 l1 l2 l3 l4 l5 : Option Value} {i : Nat} {v : Int32} {st : List Value} {m : Nat} {I : Nat → Int32} {A : Nat → Nat → Int32} {L : Nat → Nat → Int64} {rest : Nat → Option jv_C} {z : Nat × Nat} (hi : i < 768) : jv_ev call 31 102 [l0, l1, l2, l3, l4, l5] (.int v :: .int (nI i) :: .ref (m + 18) :: st) (jm_H m I A L rest z) = jv_ev call 31 103 [l0, l1, l2, l3, l4, l5] st (jm_H m I (va_up A 21 (upd (A 21) i v)) L rest z) := je_iast D31_102 rfl (jm_s21 hi)
theorem D31_103 : decode (jt_code 31) 103 = .ok (.aload_n 0, 1) := by decide +kernel
theorem E31_103 {call : jv_F} {l1 l2 l3 l4 l5 : Option Value} {a : Nat} {st : List Value} {h : jv_H} : jv_ev call 31 103 [some (.ref a), l1, l2, l3, l4, l5] st h = jv_ev call 31 104 [some (.ref a), l1, l2, l3, l4, l5] (.ref a :: st) h := je_aload_n (r := some a) D31_103 rfl rfl
theorem D31_104 : decode (jt_code 31) 104 = .ok (.iload 5, 2) := by decide +kernel
theorem E31_104 {call : jv_F} {l0 l1 l2 l3 l4 : Option Value} {x : Int32} {st : List Value} {h : jv_H} : jv_ev call 31 104 [l0, l1, l2, l3, l4, some (.int x)] st h = jv_ev call 31 106 [l0, l1, l2, l3, l4, some (.int x)] (.int x :: st) h := je_iload D31_104 rfl rfl
theorem D31_106 : decode (jt_code 31) 106 = .ok (.invokevirtual 179, 3) := by decide +kernel
theorem E31_106 {call : jv_F} {l0 l1 l2 l3 l4 l5 : Option Value} {v0 : Value}  {st : List Value} {m : Nat} {I : Nat → Int32} {A : Nat → Nat → Int32} {L : Nat → Nat → Int64} {rest : Nat → Option jv_C} {z : Nat × Nat} (hw : jv_wide st = true) (hc : (call 20 [.ref m, v0] (jm_H m I A L rest z)).isSome = true) : jv_ev call 31 106 [l0, l1, l2, l3, l4, l5] (v0 :: .ref m :: st) (jm_H m I A L rest z) = jv_ev call 31 109 [l0, l1, l2, l3, l4, l5] ((((call 20 [.ref m, v0] (jm_H m I A L rest z)).getD (none, (jm_H m I A L rest z))).1).toList ++ st) ((call 20 [.ref m, v0] (jm_H m I A L rest z)).getD (none, (jm_H m I A L rest z))).2 := by
  obtain ⟨⟨r, h'⟩, hv⟩ := Option.isSome_iff_exists.mp hc
  rw [hv]
  exact je_virt (y := 20) (as := [v0]) D31_106 rfl (by decide) (by decide) rfl jm_cl hw hv
theorem D31_109 : decode (jt_code 31) 109 = .ok (.aload_n 0, 1) := by decide +kernel
theorem E31_109 {call : jv_F} {l1 l2 l3 l4 l5 : Option Value} {a : Nat} {st : List Value} {h : jv_H} : jv_ev call 31 109 [some (.ref a), l1, l2, l3, l4, l5] st h = jv_ev call 31 110 [some (.ref a), l1, l2, l3, l4, l5] (.ref a :: st) h := je_aload_n (r := some a) D31_109 rfl rfl
theorem D31_110 : decode (jt_code 31) 110 = .ok (.getfield 70, 3) := by decide +kernel
theorem E31_110 {call : jv_F} {l0 l1 l2 l3 l4 l5 : Option Value}  {st : List Value} {m : Nat} {I : Nat → Int32} {A : Nat → Nat → Int32} {L : Nat → Nat → Int64} {rest : Nat → Option jv_C} {z : Nat × Nat} : jv_ev call 31 110 [l0, l1, l2, l3, l4, l5] (.ref m :: st) (jm_H m I A L rest z) = jv_ev call 31 113 [l0, l1, l2, l3, l4, l5] (.ref (m + 19) :: st) (jm_H m I A L rest z) := je_get D31_110 rfl (by decide) jm_g23
theorem D31_113 : decode (jt_code 31) 113 = .ok (.iload 5, 2) := by decide +kernel
theorem E31_113 {call : jv_F} {l0 l1 l2 l3 l4 : Option Value} {x : Int32} {st : List Value} {h : jv_H} : jv_ev call 31 113 [l0, l1, l2, l3, l4, some (.int x)] st h = jv_ev call 31 115 [l0, l1, l2, l3, l4, some (.int x)] (.int x :: st) h := je_iload D31_113 rfl rfl
theorem D31_115 : decode (jt_code 31) 115 = .ok (.iload_n 3, 1) := by decide +kernel
theorem E31_115 {call : jv_F} {l0 l1 l2 l4 l5 : Option Value} {x : Int32} {st : List Value} {h : jv_H} : jv_ev call 31 115 [l0, l1, l2, some (.int x), l4, l5] st h = jv_ev call 31 116 [l0, l1, l2, some (.int x), l4, l5] (.int x :: st) h := je_iload_n D31_115 rfl rfl
theorem D31_116 : decode (jt_code 31) 116 = .ok (.iastore, 1) := by decide +kernel
theorem E31_116 {call : jv_F} {l0 l1 l2 l3 l4 l5 : Option Value} {i : Nat} {v : Int32} {st : List Value} {m : Nat} {I : Nat → Int32} {A : Nat → Nat → Int32} {L : Nat → Nat → Int64} {rest : Nat → Option jv_C} {z : Nat × Nat} (hi : i < 17) : jv_ev call 31 116 [l0, l1, l2, l3, l4, l5] (.int v :: .int (nI i) :: .ref (m + 19) :: st) (jm_H m I A L rest z) = jv_ev call 31 117 [l0, l1, l2, l3, l4, l5] st (jm_H m I (va_up A 23 (upd (A 23) i v)) L rest z) := je_iast D31_116 rfl (jm_s23 hi)
theorem D31_117 : decode (jt_code 31) 117 = .ok (.iconst 1, 1) := by decide +kernel
theorem E31_117 {call : jv_F} {l0 l1 l2 l3 l4 l5 : Option Value}  {st : List Value} {h : jv_H} : jv_ev call 31 117 [l0, l1, l2, l3, l4, l5] st h = jv_ev call 31 118 [l0, l1, l2, l3, l4, l5] (.int (nI 1) :: st) h := je_iconst D31_117 rfl (by decide)
theorem D31_118 : decode (jt_code 31) 118 = .ok (.ireturn, 1) := by decide +kernel
theorem E31_118 {call : jv_F} {l0 l1 l2 l3 l4 l5 : Option Value} {v : Int32} {h : jv_H} (hn : narrow .boolean (.int v) = .int v) (hf : fits .boolean (.int v) = true) : jv_ev call 31 118 [l0, l1, l2, l3, l4, l5] [.int v] h = some (some (.int v), h) := je_iret (ty := .boolean) D31_118 rfl hn hf
theorem D31_119 : decode (jt_code 31) 119 = .ok (.aload_n 0, 1) := by decide +kernel
theorem E31_119 {call : jv_F} {l1 l2 l3 l4 l5 : Option Value} {a : Nat} {st : List Value} {h : jv_H} : jv_ev call 31 119 [some (.ref a), l1, l2, l3, l4, l5] st h = jv_ev call 31 120 [some (.ref a), l1, l2, l3, l4, l5] (.ref a :: st) h := je_aload_n (r := some a) D31_119 rfl rfl
theorem D31_120 : decode (jt_code 31) 120 = .ok (.dup, 1) := by decide +kernel
theorem E31_120 {call : jv_F} {l0 l1 l2 l3 l4 l5 : Option Value} {a : Nat} {st : List Value} {h : jv_H} : jv_ev call 31 120 [l0, l1, l2, l3, l4, l5] (.ref a :: st) h = jv_ev call 31 121 [l0, l1, l2, l3, l4, l5] (.ref a :: .ref a :: st) h := je_dup D31_120 rfl rfl
theorem E31_120i {call : jv_F} {l0 l1 l2 l3 l4 l5 : Option Value} {x : Int32} {st : List Value} {h : jv_H} : jv_ev call 31 120 [l0, l1, l2, l3, l4, l5] (.int x :: st) h = jv_ev call 31 121 [l0, l1, l2, l3, l4, l5] (.int x :: .int x :: st) h := je_dup D31_120 rfl rfl
theorem D31_121 : decode (jt_code 31) 121 = .ok (.getfield 222, 3) := by decide +kernel
theorem E31_121 {call : jv_F} {l0 l1 l2 l3 l4 l5 : Option Value}  {st : List Value} {m : Nat} {I : Nat → Int32} {A : Nat → Nat → Int32} {L : Nat → Nat → Int64} {rest : Nat → Option jv_C} {z : Nat × Nat} : jv_ev call 31 121 [l0, l1, l2, l3, l4, l5] (.ref m :: st) (jm_H m I A L rest z) = jv_ev call 31 124 [l0, l1, l2, l3, l4, l5] (.int (I 40) :: st) (jm_H m I A L rest z) := je_get D31_121 rfl (by decide) jm_g40
theorem D31_124 : decode (jt_code 31) 124 = .ok (.iconst 1, 1) := by decide +kernel
theorem E31_124 {call : jv_F} {l0 l1 l2 l3 l4 l5 : Option Value}  {st : List Value} {h : jv_H} : jv_ev call 31 124 [l0, l1, l2, l3, l4, l5] st h = jv_ev call 31 125 [l0, l1, l2, l3, l4, l5] (.int (nI 1) :: st) h := je_iconst D31_124 rfl (by decide)
theorem D31_125 : decode (jt_code 31) 125 = .ok (.iadd, 1) := by decide +kernel
theorem E31_125 {call : jv_F} {l0 l1 l2 l3 l4 l5 : Option Value} {x y : Int32} {st : List Value} {h : jv_H} : jv_ev call 31 125 [l0, l1, l2, l3, l4, l5] (.int y :: .int x :: st) h = jv_ev call 31 126 [l0, l1, l2, l3, l4, l5] (.int (x + y) :: st) h := je_b2 (f := fun x y => x + y) D31_125 rfl (fun _ => rfl)
theorem D31_126 : decode (jt_code 31) 126 = .ok (.putfield 222, 3) := by decide +kernel
theorem E31_126 {call : jv_F} {l0 l1 l2 l3 l4 l5 : Option Value} {v : Int32} {st : List Value} {m : Nat} {I : Nat → Int32} {A : Nat → Nat → Int32} {L : Nat → Nat → Int64} {rest : Nat → Option jv_C} {z : Nat × Nat} : jv_ev call 31 126 [l0, l1, l2, l3, l4, l5] (.int v :: .ref m :: st) (jm_H m I A L rest z) = jv_ev call 31 129 [l0, l1, l2, l3, l4, l5] st (jm_H m (upd I 40 v) A L rest z) := je_put D31_126 rfl (by decide) (by decide) jm_p40
theorem D31_129 : decode (jt_code 31) 129 = .ok (.aload_n 0, 1) := by decide +kernel
theorem E31_129 {call : jv_F} {l1 l2 l3 l4 l5 : Option Value} {a : Nat} {st : List Value} {h : jv_H} : jv_ev call 31 129 [some (.ref a), l1, l2, l3, l4, l5] st h = jv_ev call 31 130 [some (.ref a), l1, l2, l3, l4, l5] (.ref a :: st) h := je_aload_n (r := some a) D31_129 rfl rfl
theorem D31_130 : decode (jt_code 31) 130 = .ok (.getfield 57, 3) := by decide +kernel
theorem E31_130 {call : jv_F} {l0 l1 l2 l3 l4 l5 : Option Value}  {st : List Value} {m : Nat} {I : Nat → Int32} {A : Nat → Nat → Int32} {L : Nat → Nat → Int64} {rest : Nat → Option jv_C} {z : Nat × Nat} : jv_ev call 31 130 [l0, l1, l2, l3, l4, l5] (.ref m :: st) (jm_H m I A L rest z) = jv_ev call 31 133 [l0, l1, l2, l3, l4, l5] (.ref (m + 15) :: st) (jm_H m I A L rest z) := je_get D31_130 rfl (by decide) jm_g18
theorem D31_133 : decode (jt_code 31) 133 = .ok (.iload_n 1, 1) := by decide +kernel
theorem E31_133 {call : jv_F} {l0 l2 l3 l4 l5 : Option Value} {x : Int32} {st : List Value} {h : jv_H} : jv_ev call 31 133 [l0, some (.int x), l2, l3, l4, l5] st h = jv_ev call 31 134 [l0, some (.int x), l2, l3, l4, l5] (.int x :: st) h := je_iload_n D31_133 rfl rfl
theorem D31_134 : decode (jt_code 31) 134 = .ok (.iload 4, 2) := by decide +kernel
theorem E31_134 {call : jv_F} {l0 l1 l2 l3 l5 : Option Value} {x : Int32} {st : List Value} {h : jv_H} : jv_ev call 31 134 [l0, l1, l2, l3, some (.int x), l5] st h = jv_ev call 31 136 [l0, l1, l2, l3, some (.int x), l5] (.int x :: st) h := je_iload D31_134 rfl rfl
theorem D31_136 : decode (jt_code 31) 136 = .ok (.ifCond .ge 8, 3) := by decide +kernel
theorem E31_136 {call : jv_F} {l0 l1 l2 l3 l4 l5 : Option Value} {x : Int32} {st : List Value} {h : jv_H} : jv_ev call 31 136 [l0, l1, l2, l3, l4, l5] (.int x :: st) h = if 0 ≤ x then jv_ev call 31 144 [l0, l1, l2, l3, l4, l5] st h else jv_ev call 31 139 [l0, l1, l2, l3, l4, l5] st h := je_ifc D31_136 (by decide) rfl rfl
theorem D31_139 : decode (jt_code 31) 139 = .ok (.iload 5, 2) := by decide +kernel
theorem E31_139 {call : jv_F} {l0 l1 l2 l3 l4 : Option Value} {x : Int32} {st : List Value} {h : jv_H} : jv_ev call 31 139 [l0, l1, l2, l3, l4, some (.int x)] st h = jv_ev call 31 141 [l0, l1, l2, l3, l4, some (.int x)] (.int x :: st) h := je_iload D31_139 rfl rfl
theorem D31_141 : decode (jt_code 31) 141 = .ok (.ifCond .lt 7, 3) := by decide +kernel
theorem E31_141 {call : jv_F} {l0 l1 l2 l3 l4 l5 : Option Value} {x : Int32} {st : List Value} {h : jv_H} : jv_ev call 31 141 [l0, l1, l2, l3, l4, l5] (.int x :: st) h = if x < 0 then jv_ev call 31 148 [l0, l1, l2, l3, l4, l5] st h else jv_ev call 31 144 [l0, l1, l2, l3, l4, l5] st h := je_ifc D31_141 (by decide) rfl rfl
theorem D31_144 : decode (jt_code 31) 144 = .ok (.iconst 1, 1) := by decide +kernel
theorem E31_144 {call : jv_F} {l0 l1 l2 l3 l4 l5 : Option Value}  {st : List Value} {h : jv_H} : jv_ev call 31 144 [l0, l1, l2, l3, l4, l5] st h = jv_ev call 31 145 [l0, l1, l2, l3, l4, l5] (.int (nI 1) :: st) h := je_iconst D31_144 rfl (by decide)
theorem D31_145 : decode (jt_code 31) 145 = .ok (.goto 4, 3) := by decide +kernel
theorem E31_145 {call : jv_F} {l0 l1 l2 l3 l4 l5 : Option Value}  {st : List Value} {h : jv_H} : jv_ev call 31 145 [l0, l1, l2, l3, l4, l5] st h = jv_ev call 31 149 [l0, l1, l2, l3, l4, l5] st h := je_goto D31_145 (by decide)
theorem D31_148 : decode (jt_code 31) 148 = .ok (.iconst 2, 1) := by decide +kernel
theorem E31_148 {call : jv_F} {l0 l1 l2 l3 l4 l5 : Option Value}  {st : List Value} {h : jv_H} : jv_ev call 31 148 [l0, l1, l2, l3, l4, l5] st h = jv_ev call 31 149 [l0, l1, l2, l3, l4, l5] (.int (nI 2) :: st) h := je_iconst D31_148 rfl (by decide)
theorem D31_149 : decode (jt_code 31) 149 = .ok (.iastore, 1) := by decide +kernel
theorem E31_149 {call : jv_F} {l0 l1 l2 l3 l4 l5 : Option Value} {i : Nat} {v : Int32} {st : List Value} {m : Nat} {I : Nat → Int32} {A : Nat → Nat → Int32} {L : Nat → Nat → Int64} {rest : Nat → Option jv_C} {z : Nat × Nat} (hi : i < 12) : jv_ev call 31 149 [l0, l1, l2, l3, l4, l5] (.int v :: .int (nI i) :: .ref (m + 15) :: st) (jm_H m I A L rest z) = jv_ev call 31 150 [l0, l1, l2, l3, l4, l5] st (jm_H m I (va_up A 18 (upd (A 18) i v)) L rest z) := je_iast D31_149 rfl (jm_s18 hi)
theorem D31_150 : decode (jt_code 31) 150 = .ok (.aload_n 0, 1) := by decide +kernel
theorem E31_150 {call : jv_F} {l1 l2 l3 l4 l5 : Option Value} {a : Nat} {st : List Value} {h : jv_H} : jv_ev call 31 150 [some (.ref a), l1, l2, l3, l4, l5] st h = jv_ev call 31 151 [some (.ref a), l1, l2, l3, l4, l5] (.ref a :: st) h := je_aload_n (r := some a) D31_150 rfl rfl
theorem D31_151 : decode (jt_code 31) 151 = .ok (.getfield 60, 3) := by decide +kernel
theorem E31_151 {call : jv_F} {l0 l1 l2 l3 l4 l5 : Option Value}  {st : List Value} {m : Nat} {I : Nat → Int32} {A : Nat → Nat → Int32} {L : Nat → Nat → Int64} {rest : Nat → Option jv_C} {z : Nat × Nat} : jv_ev call 31 151 [l0, l1, l2, l3, l4, l5] (.ref m :: st) (jm_H m I A L rest z) = jv_ev call 31 154 [l0, l1, l2, l3, l4, l5] (.ref (m + 16) :: st) (jm_H m I A L rest z) := je_get D31_151 rfl (by decide) jm_g19
theorem D31_154 : decode (jt_code 31) 154 = .ok (.iload_n 1, 1) := by decide +kernel
theorem E31_154 {call : jv_F} {l0 l2 l3 l4 l5 : Option Value} {x : Int32} {st : List Value} {h : jv_H} : jv_ev call 31 154 [l0, some (.int x), l2, l3, l4, l5] st h = jv_ev call 31 155 [l0, some (.int x), l2, l3, l4, l5] (.int x :: st) h := je_iload_n D31_154 rfl rfl
theorem D31_155 : decode (jt_code 31) 155 = .ok (.iload_n 3, 1) := by decide +kernel
theorem E31_155 {call : jv_F} {l0 l1 l2 l4 l5 : Option Value} {x : Int32} {st : List Value} {h : jv_H} : jv_ev call 31 155 [l0, l1, l2, some (.int x), l4, l5] st h = jv_ev call 31 156 [l0, l1, l2, some (.int x), l4, l5] (.int x :: st) h := je_iload_n D31_155 rfl rfl
theorem D31_156 : decode (jt_code 31) 156 = .ok (.iastore, 1) := by decide +kernel
theorem E31_156 {call : jv_F} {l0 l1 l2 l3 l4 l5 : Option Value} {i : Nat} {v : Int32} {st : List Value} {m : Nat} {I : Nat → Int32} {A : Nat → Nat → Int32} {L : Nat → Nat → Int64} {rest : Nat → Option jv_C} {z : Nat × Nat} (hi : i < 12) : jv_ev call 31 156 [l0, l1, l2, l3, l4, l5] (.int v :: .int (nI i) :: .ref (m + 16) :: st) (jm_H m I A L rest z) = jv_ev call 31 157 [l0, l1, l2, l3, l4, l5] st (jm_H m I (va_up A 19 (upd (A 19) i v)) L rest z) := je_iast D31_156 rfl (jm_s19 hi)
theorem D31_157 : decode (jt_code 31) 157 = .ok (.iload 4, 2) := by decide +kernel
theorem E31_157 {call : jv_F} {l0 l1 l2 l3 l5 : Option Value} {x : Int32} {st : List Value} {h : jv_H} : jv_ev call 31 157 [l0, l1, l2, l3, some (.int x), l5] st h = jv_ev call 31 159 [l0, l1, l2, l3, some (.int x), l5] (.int x :: st) h := je_iload D31_157 rfl rfl
theorem D31_159 : decode (jt_code 31) 159 = .ok (.ifCond .ge 23, 3) := by decide +kernel
theorem E31_159 {call : jv_F} {l0 l1 l2 l3 l4 l5 : Option Value} {x : Int32} {st : List Value} {h : jv_H} : jv_ev call 31 159 [l0, l1, l2, l3, l4, l5] (.int x :: st) h = if 0 ≤ x then jv_ev call 31 182 [l0, l1, l2, l3, l4, l5] st h else jv_ev call 31 162 [l0, l1, l2, l3, l4, l5] st h := je_ifc D31_159 (by decide) rfl rfl
theorem D31_162 : decode (jt_code 31) 162 = .ok (.iload 5, 2) := by decide +kernel
theorem E31_162 {call : jv_F} {l0 l1 l2 l3 l4 : Option Value} {x : Int32} {st : List Value} {h : jv_H} : jv_ev call 31 162 [l0, l1, l2, l3, l4, some (.int x)] st h = jv_ev call 31 164 [l0, l1, l2, l3, l4, some (.int x)] (.int x :: st) h := je_iload D31_162 rfl rfl
theorem D31_164 : decode (jt_code 31) 164 = .ok (.ifCond .lt 18, 3) := by decide +kernel
theorem E31_164 {call : jv_F} {l0 l1 l2 l3 l4 l5 : Option Value} {x : Int32} {st : List Value} {h : jv_H} : jv_ev call 31 164 [l0, l1, l2, l3, l4, l5] (.int x :: st) h = if x < 0 then jv_ev call 31 182 [l0, l1, l2, l3, l4, l5] st h else jv_ev call 31 167 [l0, l1, l2, l3, l4, l5] st h := je_ifc D31_164 (by decide) rfl rfl
theorem D31_167 : decode (jt_code 31) 167 = .ok (.aload_n 0, 1) := by decide +kernel
theorem E31_167 {call : jv_F} {l1 l2 l3 l4 l5 : Option Value} {a : Nat} {st : List Value} {h : jv_H} : jv_ev call 31 167 [some (.ref a), l1, l2, l3, l4, l5] st h = jv_ev call 31 168 [some (.ref a), l1, l2, l3, l4, l5] (.ref a :: st) h := je_aload_n (r := some a) D31_167 rfl rfl
theorem D31_168 : decode (jt_code 31) 168 = .ok (.getfield 70, 3) := by decide +kernel
theorem E31_168 {call : jv_F} {l0 l1 l2 l3 l4 l5 : Option Value}  {st : List Value} {m : Nat} {I : Nat → Int32} {A : Nat → Nat → Int32} {L : Nat → Nat → Int64} {rest : Nat → Option jv_C} {z : Nat × Nat} : jv_ev call 31 168 [l0, l1, l2, l3, l4, l5] (.ref m :: st) (jm_H m I A L rest z) = jv_ev call 31 171 [l0, l1, l2, l3, l4, l5] (.ref (m + 19) :: st) (jm_H m I A L rest z) := je_get D31_168 rfl (by decide) jm_g23
theorem D31_171 : decode (jt_code 31) 171 = .ok (.iload 5, 2) := by decide +kernel
theorem E31_171 {call : jv_F} {l0 l1 l2 l3 l4 : Option Value} {x : Int32} {st : List Value} {h : jv_H} : jv_ev call 31 171 [l0, l1, l2, l3, l4, some (.int x)] st h = jv_ev call 31 173 [l0, l1, l2, l3, l4, some (.int x)] (.int x :: st) h := je_iload D31_171 rfl rfl
theorem D31_173 : decode (jt_code 31) 173 = .ok (.iload_n 3, 1) := by decide +kernel
theorem E31_173 {call : jv_F} {l0 l1 l2 l4 l5 : Option Value} {x : Int32} {st : List Value} {h : jv_H} : jv_ev call 31 173 [l0, l1, l2, some (.int x), l4, l5] st h = jv_ev call 31 174 [l0, l1, l2, some (.int x), l4, l5] (.int x :: st) h := je_iload_n D31_173 rfl rfl
theorem D31_174 : decode (jt_code 31) 174 = .ok (.iastore, 1) := by decide +kernel
theorem E31_174 {call : jv_F} {l0 l1 l2 l3 l4 l5 : Option Value} {i : Nat} {v : Int32} {st : List Value} {m : Nat} {I : Nat → Int32} {A : Nat → Nat → Int32} {L : Nat → Nat → Int64} {rest : Nat → Option jv_C} {z : Nat × Nat} (hi : i < 17) : jv_ev call 31 174 [l0, l1, l2, l3, l4, l5] (.int v :: .int (nI i) :: .ref (m + 19) :: st) (jm_H m I A L rest z) = jv_ev call 31 175 [l0, l1, l2, l3, l4, l5] st (jm_H m I (va_up A 23 (upd (A 23) i v)) L rest z) := je_iast D31_174 rfl (jm_s23 hi)
theorem D31_175 : decode (jt_code 31) 175 = .ok (.aload_n 0, 1) := by decide +kernel
theorem E31_175 {call : jv_F} {l1 l2 l3 l4 l5 : Option Value} {a : Nat} {st : List Value} {h : jv_H} : jv_ev call 31 175 [some (.ref a), l1, l2, l3, l4, l5] st h = jv_ev call 31 176 [some (.ref a), l1, l2, l3, l4, l5] (.ref a :: st) h := je_aload_n (r := some a) D31_175 rfl rfl
theorem D31_176 : decode (jt_code 31) 176 = .ok (.iconst 1, 1) := by decide +kernel
theorem E31_176 {call : jv_F} {l0 l1 l2 l3 l4 l5 : Option Value}  {st : List Value} {h : jv_H} : jv_ev call 31 176 [l0, l1, l2, l3, l4, l5] st h = jv_ev call 31 177 [l0, l1, l2, l3, l4, l5] (.int (nI 1) :: st) h := je_iconst D31_176 rfl (by decide)
theorem D31_177 : decode (jt_code 31) 177 = .ok (.iload 5, 2) := by decide +kernel
theorem E31_177 {call : jv_F} {l0 l1 l2 l3 l4 : Option Value} {x : Int32} {st : List Value} {h : jv_H} : jv_ev call 31 177 [l0, l1, l2, l3, l4, some (.int x)] st h = jv_ev call 31 179 [l0, l1, l2, l3, l4, some (.int x)] (.int x :: st) h := je_iload D31_177 rfl rfl
theorem D31_179 : decode (jt_code 31) 179 = .ok (.invokevirtual 197, 3) := by decide +kernel
theorem E31_179 {call : jv_F} {l0 l1 l2 l3 l4 l5 : Option Value} {v0 v1 : Value}  {st : List Value} {m : Nat} {I : Nat → Int32} {A : Nat → Nat → Int32} {L : Nat → Nat → Int64} {rest : Nat → Option jv_C} {z : Nat × Nat} (hw : jv_wide st = true) (hc : (call 25 [.ref m, v0, v1] (jm_H m I A L rest z)).isSome = true) : jv_ev call 31 179 [l0, l1, l2, l3, l4, l5] (v1 :: v0 :: .ref m :: st) (jm_H m I A L rest z) = jv_ev call 31 182 [l0, l1, l2, l3, l4, l5] ((((call 25 [.ref m, v0, v1] (jm_H m I A L rest z)).getD (none, (jm_H m I A L rest z))).1).toList ++ st) ((call 25 [.ref m, v0, v1] (jm_H m I A L rest z)).getD (none, (jm_H m I A L rest z))).2 := by
  obtain ⟨⟨r, h'⟩, hv⟩ := Option.isSome_iff_exists.mp hc
  rw [hv]
  exact je_virt (y := 25) (as := [v0, v1]) D31_179 rfl (by decide) (by decide) rfl jm_cl hw hv
theorem D31_182 : decode (jt_code 31) 182 = .ok (.iconst 0, 1) := by decide +kernel
theorem E31_182 {call : jv_F} {l0 l1 l2 l3 l4 l5 : Option Value}  {st : List Value} {h : jv_H} : jv_ev call 31 182 [l0, l1, l2, l3, l4, l5] st h = jv_ev call 31 183 [l0, l1, l2, l3, l4, l5] (.int (nI 0) :: st) h := je_iconst D31_182 rfl (by decide)
theorem D31_183 : decode (jt_code 31) 183 = .ok (.ireturn, 1) := by decide +kernel
theorem E31_183 {call : jv_F} {l0 l1 l2 l3 l4 l5 : Option Value} {v : Int32} {h : jv_H} (hn : narrow .boolean (.int v) = .int v) (hf : fits .boolean (.int v) = true) : jv_ev call 31 183 [l0, l1, l2, l3, l4, l5] [.int v] h = some (some (.int v), h) := je_iret (ty := .boolean) D31_183 rfl hn hf
/-! method 47: DrumMachineModel.round -/
theorem N47 {d : Nat} {b : Nat} {h : jv_H} : jv_run (d + 1) 47 [.ref b] h = jv_ev (jv_run d) 47 0 [some (.ref b), none] [] h := jv_run_eq (Nat.le_of_ble_eq_true rfl) rfl
theorem D47_0 : decode (jt_code 47) 0 = .ok (.aload_n 0, 1) := by decide +kernel
theorem E47_0 {call : jv_F} {l1 : Option Value} {a : Nat} {st : List Value} {h : jv_H} : jv_ev call 47 0 [some (.ref a), l1] st h = jv_ev call 47 1 [some (.ref a), l1] (.ref a :: st) h := je_aload_n (r := some a) D47_0 rfl rfl
theorem D47_1 : decode (jt_code 47) 1 = .ok (.dup, 1) := by decide +kernel
theorem E47_1 {call : jv_F} {l0 l1 : Option Value} {a : Nat} {st : List Value} {h : jv_H} : jv_ev call 47 1 [l0, l1] (.ref a :: st) h = jv_ev call 47 2 [l0, l1] (.ref a :: .ref a :: st) h := je_dup D47_1 rfl rfl
theorem E47_1i {call : jv_F} {l0 l1 : Option Value} {x : Int32} {st : List Value} {h : jv_H} : jv_ev call 47 1 [l0, l1] (.int x :: st) h = jv_ev call 47 2 [l0, l1] (.int x :: .int x :: st) h := je_dup D47_1 rfl rfl
theorem D47_2 : decode (jt_code 47) 2 = .ok (.getfield 188, 3) := by decide +kernel
theorem E47_2 {call : jv_F} {l0 l1 : Option Value}  {st : List Value} {m : Nat} {I : Nat → Int32} {A : Nat → Nat → Int32} {L : Nat → Nat → Int64} {rest : Nat → Option jv_C} {z : Nat × Nat} : jv_ev call 47 2 [l0, l1] (.ref m :: st) (jm_H m I A L rest z) = jv_ev call 47 5 [l0, l1] (.int (I 42) :: st) (jm_H m I A L rest z) := je_get D47_2 rfl (by decide) jm_g42
theorem D47_5 : decode (jt_code 47) 5 = .ok (.iconst 1, 1) := by decide +kernel
theorem E47_5 {call : jv_F} {l0 l1 : Option Value}  {st : List Value} {h : jv_H} : jv_ev call 47 5 [l0, l1] st h = jv_ev call 47 6 [l0, l1] (.int (nI 1) :: st) h := je_iconst D47_5 rfl (by decide)
theorem D47_6 : decode (jt_code 47) 6 = .ok (.iadd, 1) := by decide +kernel
theorem E47_6 {call : jv_F} {l0 l1 : Option Value} {x y : Int32} {st : List Value} {h : jv_H} : jv_ev call 47 6 [l0, l1] (.int y :: .int x :: st) h = jv_ev call 47 7 [l0, l1] (.int (x + y) :: st) h := je_b2 (f := fun x y => x + y) D47_6 rfl (fun _ => rfl)
theorem D47_7 : decode (jt_code 47) 7 = .ok (.putfield 188, 3) := by decide +kernel
theorem E47_7 {call : jv_F} {l0 l1 : Option Value} {v : Int32} {st : List Value} {m : Nat} {I : Nat → Int32} {A : Nat → Nat → Int32} {L : Nat → Nat → Int64} {rest : Nat → Option jv_C} {z : Nat × Nat} : jv_ev call 47 7 [l0, l1] (.int v :: .ref m :: st) (jm_H m I A L rest z) = jv_ev call 47 10 [l0, l1] st (jm_H m (upd I 42 v) A L rest z) := je_put D47_7 rfl (by decide) (by decide) jm_p42
theorem D47_10 : decode (jt_code 47) 10 = .ok (.iconst 0, 1) := by decide +kernel
theorem E47_10 {call : jv_F} {l0 l1 : Option Value}  {st : List Value} {h : jv_H} : jv_ev call 47 10 [l0, l1] st h = jv_ev call 47 11 [l0, l1] (.int (nI 0) :: st) h := je_iconst D47_10 rfl (by decide)
theorem D47_11 : decode (jt_code 47) 11 = .ok (.istore_n 1, 1) := by decide +kernel
theorem E47_11 {call : jv_F} {l0 l1 : Option Value} {x : Int32} {st : List Value} {h : jv_H} (hk : ¬ jv_is2 (some l0) = true) : jv_ev call 47 11 [l0, l1] (.int x :: st) h = jv_ev call 47 12 [l0, some (.int x)] st h := je_istore_n D47_11 rfl (Nat.le_of_ble_eq_true rfl) (by show jv_st1 _ 1 _ = _; simp only [jv_st1, jv_kill, List.getElem?_cons_succ, List.getElem?_cons_zero, hk, if_false]; rfl)
theorem D47_12 : decode (jt_code 47) 12 = .ok (.iload_n 1, 1) := by decide +kernel
theorem E47_12 {call : jv_F} {l0 : Option Value} {x : Int32} {st : List Value} {h : jv_H} : jv_ev call 47 12 [l0, some (.int x)] st h = jv_ev call 47 13 [l0, some (.int x)] (.int x :: st) h := je_iload_n D47_12 rfl rfl
theorem D47_13 : decode (jt_code 47) 13 = .ok (.aload_n 0, 1) := by decide +kernel
theorem E47_13 {call : jv_F} {l1 : Option Value} {a : Nat} {st : List Value} {h : jv_H} : jv_ev call 47 13 [some (.ref a), l1] st h = jv_ev call 47 14 [some (.ref a), l1] (.ref a :: st) h := je_aload_n (r := some a) D47_13 rfl rfl
theorem D47_14 : decode (jt_code 47) 14 = .ok (.getfield 7, 3) := by decide +kernel
theorem E47_14 {call : jv_F} {l0 l1 : Option Value}  {st : List Value} {m : Nat} {I : Nat → Int32} {A : Nat → Nat → Int32} {L : Nat → Nat → Int64} {rest : Nat → Option jv_C} {z : Nat × Nat} : jv_ev call 47 14 [l0, l1] (.ref m :: st) (jm_H m I A L rest z) = jv_ev call 47 17 [l0, l1] (.int (I 0) :: st) (jm_H m I A L rest z) := je_get D47_14 rfl (by decide) jm_g0
theorem D47_17 : decode (jt_code 47) 17 = .ok (.if_icmp .ge 96, 3) := by decide +kernel
theorem E47_17 {call : jv_F} {l0 l1 : Option Value} {x y : Int32} {st : List Value} {h : jv_H} : jv_ev call 47 17 [l0, l1] (.int y :: .int x :: st) h = if y ≤ x then jv_ev call 47 113 [l0, l1] st h else jv_ev call 47 20 [l0, l1] st h := je_icmp D47_17 (by decide) rfl rfl
theorem D47_20 : decode (jt_code 47) 20 = .ok (.aload_n 0, 1) := by decide +kernel
theorem E47_20 {call : jv_F} {l1 : Option Value} {a : Nat} {st : List Value} {h : jv_H} : jv_ev call 47 20 [some (.ref a), l1] st h = jv_ev call 47 21 [some (.ref a), l1] (.ref a :: st) h := je_aload_n (r := some a) D47_20 rfl rfl
theorem D47_21 : decode (jt_code 47) 21 = .ok (.getfield 70, 3) := by decide +kernel
theorem E47_21 {call : jv_F} {l0 l1 : Option Value}  {st : List Value} {m : Nat} {I : Nat → Int32} {A : Nat → Nat → Int32} {L : Nat → Nat → Int64} {rest : Nat → Option jv_C} {z : Nat × Nat} : jv_ev call 47 21 [l0, l1] (.ref m :: st) (jm_H m I A L rest z) = jv_ev call 47 24 [l0, l1] (.ref (m + 19) :: st) (jm_H m I A L rest z) := je_get D47_21 rfl (by decide) jm_g23
theorem D47_24 : decode (jt_code 47) 24 = .ok (.iload_n 1, 1) := by decide +kernel
theorem E47_24 {call : jv_F} {l0 : Option Value} {x : Int32} {st : List Value} {h : jv_H} : jv_ev call 47 24 [l0, some (.int x)] st h = jv_ev call 47 25 [l0, some (.int x)] (.int x :: st) h := je_iload_n D47_24 rfl rfl
theorem D47_25 : decode (jt_code 47) 25 = .ok (.iaload, 1) := by decide +kernel
theorem E47_25 {call : jv_F} {l0 l1 : Option Value} {i : Nat} {st : List Value} {m : Nat} {I : Nat → Int32} {A : Nat → Nat → Int32} {L : Nat → Nat → Int64} {rest : Nat → Option jv_C} {z : Nat × Nat} (hi : i < 17) : jv_ev call 47 25 [l0, l1] (.int (nI i) :: .ref (m + 19) :: st) (jm_H m I A L rest z) = jv_ev call 47 26 [l0, l1] (.int (A 23 i) :: st) (jm_H m I A L rest z) := je_iald D47_25 rfl (jm_l23 hi)
theorem D47_26 : decode (jt_code 47) 26 = .ok (.ifCond .lt 81, 3) := by decide +kernel
theorem E47_26 {call : jv_F} {l0 l1 : Option Value} {x : Int32} {st : List Value} {h : jv_H} : jv_ev call 47 26 [l0, l1] (.int x :: st) h = if x < 0 then jv_ev call 47 107 [l0, l1] st h else jv_ev call 47 29 [l0, l1] st h := je_ifc D47_26 (by decide) rfl rfl
theorem D47_29 : decode (jt_code 47) 29 = .ok (.aload_n 0, 1) := by decide +kernel
theorem E47_29 {call : jv_F} {l1 : Option Value} {a : Nat} {st : List Value} {h : jv_H} : jv_ev call 47 29 [some (.ref a), l1] st h = jv_ev call 47 30 [some (.ref a), l1] (.ref a :: st) h := je_aload_n (r := some a) D47_29 rfl rfl
theorem D47_30 : decode (jt_code 47) 30 = .ok (.getfield 79, 3) := by decide +kernel
theorem E47_30 {call : jv_F} {l0 l1 : Option Value}  {st : List Value} {m : Nat} {I : Nat → Int32} {A : Nat → Nat → Int32} {L : Nat → Nat → Int64} {rest : Nat → Option jv_C} {z : Nat × Nat} : jv_ev call 47 30 [l0, l1] (.ref m :: st) (jm_H m I A L rest z) = jv_ev call 47 33 [l0, l1] (.ref (m + 22) :: st) (jm_H m I A L rest z) := je_get D47_30 rfl (by decide) jm_g26
theorem D47_33 : decode (jt_code 47) 33 = .ok (.iload_n 1, 1) := by decide +kernel
theorem E47_33 {call : jv_F} {l0 : Option Value} {x : Int32} {st : List Value} {h : jv_H} : jv_ev call 47 33 [l0, some (.int x)] st h = jv_ev call 47 34 [l0, some (.int x)] (.int x :: st) h := je_iload_n D47_33 rfl rfl
theorem D47_34 : decode (jt_code 47) 34 = .ok (.baload, 1) := by decide +kernel
theorem E47_34 {call : jv_F} {l0 l1 : Option Value} {i : Nat} {st : List Value} {m : Nat} {I : Nat → Int32} {A : Nat → Nat → Int32} {L : Nat → Nat → Int64} {rest : Nat → Option jv_C} {z : Nat × Nat} (hi : i < 17) : jv_ev call 47 34 [l0, l1] (.int (nI i) :: .ref (m + 22) :: st) (jm_H m I A L rest z) = jv_ev call 47 35 [l0, l1] (.int (A 26 i) :: st) (jm_H m I A L rest z) := je_bald D47_34 rfl (jm_l26 hi)
theorem D47_35 : decode (jt_code 47) 35 = .ok (.ifCond .eq 6, 3) := by decide +kernel
theorem E47_35 {call : jv_F} {l0 l1 : Option Value} {x : Int32} {st : List Value} {h : jv_H} : jv_ev call 47 35 [l0, l1] (.int x :: st) h = if x = 0 then jv_ev call 47 41 [l0, l1] st h else jv_ev call 47 38 [l0, l1] st h := je_ifc D47_35 (by decide) rfl rfl
theorem D47_38 : decode (jt_code 47) 38 = .ok (.goto 69, 3) := by decide +kernel
theorem E47_38 {call : jv_F} {l0 l1 : Option Value}  {st : List Value} {h : jv_H} : jv_ev call 47 38 [l0, l1] st h = jv_ev call 47 107 [l0, l1] st h := je_goto D47_38 (by decide)
theorem D47_41 : decode (jt_code 47) 41 = .ok (.aload_n 0, 1) := by decide +kernel
theorem E47_41 {call : jv_F} {l1 : Option Value} {a : Nat} {st : List Value} {h : jv_H} : jv_ev call 47 41 [some (.ref a), l1] st h = jv_ev call 47 42 [some (.ref a), l1] (.ref a :: st) h := je_aload_n (r := some a) D47_41 rfl rfl
theorem D47_42 : decode (jt_code 47) 42 = .ok (.getfield 82, 3) := by decide +kernel
theorem E47_42 {call : jv_F} {l0 l1 : Option Value}  {st : List Value} {m : Nat} {I : Nat → Int32} {A : Nat → Nat → Int32} {L : Nat → Nat → Int64} {rest : Nat → Option jv_C} {z : Nat × Nat} : jv_ev call 47 42 [l0, l1] (.ref m :: st) (jm_H m I A L rest z) = jv_ev call 47 45 [l0, l1] (.ref (m + 23) :: st) (jm_H m I A L rest z) := je_get D47_42 rfl (by decide) jm_g27
theorem D47_45 : decode (jt_code 47) 45 = .ok (.iload_n 1, 1) := by decide +kernel
theorem E47_45 {call : jv_F} {l0 : Option Value} {x : Int32} {st : List Value} {h : jv_H} : jv_ev call 47 45 [l0, some (.int x)] st h = jv_ev call 47 46 [l0, some (.int x)] (.int x :: st) h := je_iload_n D47_45 rfl rfl
theorem D47_46 : decode (jt_code 47) 46 = .ok (.baload, 1) := by decide +kernel
theorem E47_46 {call : jv_F} {l0 l1 : Option Value} {i : Nat} {st : List Value} {m : Nat} {I : Nat → Int32} {A : Nat → Nat → Int32} {L : Nat → Nat → Int64} {rest : Nat → Option jv_C} {z : Nat × Nat} (hi : i < 17) : jv_ev call 47 46 [l0, l1] (.int (nI i) :: .ref (m + 23) :: st) (jm_H m I A L rest z) = jv_ev call 47 47 [l0, l1] (.int (A 27 i) :: st) (jm_H m I A L rest z) := je_bald D47_46 rfl (jm_l27 hi)
theorem D47_47 : decode (jt_code 47) 47 = .ok (.ifCond .eq 43, 3) := by decide +kernel
theorem E47_47 {call : jv_F} {l0 l1 : Option Value} {x : Int32} {st : List Value} {h : jv_H} : jv_ev call 47 47 [l0, l1] (.int x :: st) h = if x = 0 then jv_ev call 47 90 [l0, l1] st h else jv_ev call 47 50 [l0, l1] st h := je_ifc D47_47 (by decide) rfl rfl
theorem D47_50 : decode (jt_code 47) 50 = .ok (.aload_n 0, 1) := by decide +kernel
theorem E47_50 {call : jv_F} {l1 : Option Value} {a : Nat} {st : List Value} {h : jv_H} : jv_ev call 47 50 [some (.ref a), l1] st h = jv_ev call 47 51 [some (.ref a), l1] (.ref a :: st) h := je_aload_n (r := some a) D47_50 rfl rfl
theorem D47_51 : decode (jt_code 47) 51 = .ok (.getfield 76, 3) := by decide +kernel
theorem E47_51 {call : jv_F} {l0 l1 : Option Value}  {st : List Value} {m : Nat} {I : Nat → Int32} {A : Nat → Nat → Int32} {L : Nat → Nat → Int64} {rest : Nat → Option jv_C} {z : Nat × Nat} : jv_ev call 47 51 [l0, l1] (.ref m :: st) (jm_H m I A L rest z) = jv_ev call 47 54 [l0, l1] (.ref (m + 21) :: st) (jm_H m I A L rest z) := je_get D47_51 rfl (by decide) jm_g25
theorem D47_54 : decode (jt_code 47) 54 = .ok (.iload_n 1, 1) := by decide +kernel
theorem E47_54 {call : jv_F} {l0 : Option Value} {x : Int32} {st : List Value} {h : jv_H} : jv_ev call 47 54 [l0, some (.int x)] st h = jv_ev call 47 55 [l0, some (.int x)] (.int x :: st) h := je_iload_n D47_54 rfl rfl
theorem D47_55 : decode (jt_code 47) 55 = .ok (.aload_n 0, 1) := by decide +kernel
theorem E47_55 {call : jv_F} {l1 : Option Value} {a : Nat} {st : List Value} {h : jv_H} : jv_ev call 47 55 [some (.ref a), l1] st h = jv_ev call 47 56 [some (.ref a), l1] (.ref a :: st) h := je_aload_n (r := some a) D47_55 rfl rfl
theorem D47_56 : decode (jt_code 47) 56 = .ok (.getfield 73, 3) := by decide +kernel
theorem E47_56 {call : jv_F} {l0 l1 : Option Value}  {st : List Value} {m : Nat} {I : Nat → Int32} {A : Nat → Nat → Int32} {L : Nat → Nat → Int64} {rest : Nat → Option jv_C} {z : Nat × Nat} : jv_ev call 47 56 [l0, l1] (.ref m :: st) (jm_H m I A L rest z) = jv_ev call 47 59 [l0, l1] (.ref (m + 20) :: st) (jm_H m I A L rest z) := je_get D47_56 rfl (by decide) jm_g24
theorem D47_59 : decode (jt_code 47) 59 = .ok (.iload_n 1, 1) := by decide +kernel
theorem E47_59 {call : jv_F} {l0 : Option Value} {x : Int32} {st : List Value} {h : jv_H} : jv_ev call 47 59 [l0, some (.int x)] st h = jv_ev call 47 60 [l0, some (.int x)] (.int x :: st) h := je_iload_n D47_59 rfl rfl
theorem D47_60 : decode (jt_code 47) 60 = .ok (.iaload, 1) := by decide +kernel
theorem E47_60 {call : jv_F} {l0 l1 : Option Value} {i : Nat} {st : List Value} {m : Nat} {I : Nat → Int32} {A : Nat → Nat → Int32} {L : Nat → Nat → Int64} {rest : Nat → Option jv_C} {z : Nat × Nat} (hi : i < 17) : jv_ev call 47 60 [l0, l1] (.int (nI i) :: .ref (m + 20) :: st) (jm_H m I A L rest z) = jv_ev call 47 61 [l0, l1] (.int (A 24 i) :: st) (jm_H m I A L rest z) := je_iald D47_60 rfl (jm_l24 hi)
theorem D47_61 : decode (jt_code 47) 61 = .ok (.ifCond .le 12, 3) := by decide +kernel
theorem E47_61 {call : jv_F} {l0 l1 : Option Value} {x : Int32} {st : List Value} {h : jv_H} : jv_ev call 47 61 [l0, l1] (.int x :: st) h = if x ≤ 0 then jv_ev call 47 73 [l0, l1] st h else jv_ev call 47 64 [l0, l1] st h := je_ifc D47_61 (by decide) rfl rfl
theorem D47_64 : decode (jt_code 47) 64 = .ok (.aload_n 0, 1) := by decide +kernel
theorem E47_64 {call : jv_F} {l1 : Option Value} {a : Nat} {st : List Value} {h : jv_H} : jv_ev call 47 64 [some (.ref a), l1] st h = jv_ev call 47 65 [some (.ref a), l1] (.ref a :: st) h := je_aload_n (r := some a) D47_64 rfl rfl
theorem D47_65 : decode (jt_code 47) 65 = .ok (.getfield 73, 3) := by decide +kernel
theorem E47_65 {call : jv_F} {l0 l1 : Option Value}  {st : List Value} {m : Nat} {I : Nat → Int32} {A : Nat → Nat → Int32} {L : Nat → Nat → Int64} {rest : Nat → Option jv_C} {z : Nat × Nat} : jv_ev call 47 65 [l0, l1] (.ref m :: st) (jm_H m I A L rest z) = jv_ev call 47 68 [l0, l1] (.ref (m + 20) :: st) (jm_H m I A L rest z) := je_get D47_65 rfl (by decide) jm_g24
theorem D47_68 : decode (jt_code 47) 68 = .ok (.iload_n 1, 1) := by decide +kernel
theorem E47_68 {call : jv_F} {l0 : Option Value} {x : Int32} {st : List Value} {h : jv_H} : jv_ev call 47 68 [l0, some (.int x)] st h = jv_ev call 47 69 [l0, some (.int x)] (.int x :: st) h := je_iload_n D47_68 rfl rfl
theorem D47_69 : decode (jt_code 47) 69 = .ok (.iaload, 1) := by decide +kernel
theorem E47_69 {call : jv_F} {l0 l1 : Option Value} {i : Nat} {st : List Value} {m : Nat} {I : Nat → Int32} {A : Nat → Nat → Int32} {L : Nat → Nat → Int64} {rest : Nat → Option jv_C} {z : Nat × Nat} (hi : i < 17) : jv_ev call 47 69 [l0, l1] (.int (nI i) :: .ref (m + 20) :: st) (jm_H m I A L rest z) = jv_ev call 47 70 [l0, l1] (.int (A 24 i) :: st) (jm_H m I A L rest z) := je_iald D47_69 rfl (jm_l24 hi)
theorem D47_70 : decode (jt_code 47) 70 = .ok (.goto 9, 3) := by decide +kernel
theorem E47_70 {call : jv_F} {l0 l1 : Option Value}  {st : List Value} {h : jv_H} : jv_ev call 47 70 [l0, l1] st h = jv_ev call 47 79 [l0, l1] st h := je_goto D47_70 (by decide)
theorem D47_73 : decode (jt_code 47) 73 = .ok (.aload_n 0, 1) := by decide +kernel
theorem E47_73 {call : jv_F} {l1 : Option Value} {a : Nat} {st : List Value} {h : jv_H} : jv_ev call 47 73 [some (.ref a), l1] st h = jv_ev call 47 74 [some (.ref a), l1] (.ref a :: st) h := je_aload_n (r := some a) D47_73 rfl rfl
theorem D47_74 : decode (jt_code 47) 74 = .ok (.getfield 76, 3) := by decide +kernel
theorem E47_74 {call : jv_F} {l0 l1 : Option Value}  {st : List Value} {m : Nat} {I : Nat → Int32} {A : Nat → Nat → Int32} {L : Nat → Nat → Int64} {rest : Nat → Option jv_C} {z : Nat × Nat} : jv_ev call 47 74 [l0, l1] (.ref m :: st) (jm_H m I A L rest z) = jv_ev call 47 77 [l0, l1] (.ref (m + 21) :: st) (jm_H m I A L rest z) := je_get D47_74 rfl (by decide) jm_g25
theorem D47_77 : decode (jt_code 47) 77 = .ok (.iload_n 1, 1) := by decide +kernel
theorem E47_77 {call : jv_F} {l0 : Option Value} {x : Int32} {st : List Value} {h : jv_H} : jv_ev call 47 77 [l0, some (.int x)] st h = jv_ev call 47 78 [l0, some (.int x)] (.int x :: st) h := je_iload_n D47_77 rfl rfl
theorem D47_78 : decode (jt_code 47) 78 = .ok (.iaload, 1) := by decide +kernel
theorem E47_78 {call : jv_F} {l0 l1 : Option Value} {i : Nat} {st : List Value} {m : Nat} {I : Nat → Int32} {A : Nat → Nat → Int32} {L : Nat → Nat → Int64} {rest : Nat → Option jv_C} {z : Nat × Nat} (hi : i < 17) : jv_ev call 47 78 [l0, l1] (.int (nI i) :: .ref (m + 21) :: st) (jm_H m I A L rest z) = jv_ev call 47 79 [l0, l1] (.int (A 25 i) :: st) (jm_H m I A L rest z) := je_iald D47_78 rfl (jm_l25 hi)
theorem D47_79 : decode (jt_code 47) 79 = .ok (.iastore, 1) := by decide +kernel
theorem E47_79 {call : jv_F} {l0 l1 : Option Value} {i : Nat} {v : Int32} {st : List Value} {m : Nat} {I : Nat → Int32} {A : Nat → Nat → Int32} {L : Nat → Nat → Int64} {rest : Nat → Option jv_C} {z : Nat × Nat} (hi : i < 17) : jv_ev call 47 79 [l0, l1] (.int v :: .int (nI i) :: .ref (m + 21) :: st) (jm_H m I A L rest z) = jv_ev call 47 80 [l0, l1] st (jm_H m I (va_up A 25 (upd (A 25) i v)) L rest z) := je_iast D47_79 rfl (jm_s25 hi)
theorem D47_80 : decode (jt_code 47) 80 = .ok (.aload_n 0, 1) := by decide +kernel
theorem E47_80 {call : jv_F} {l1 : Option Value} {a : Nat} {st : List Value} {h : jv_H} : jv_ev call 47 80 [some (.ref a), l1] st h = jv_ev call 47 81 [some (.ref a), l1] (.ref a :: st) h := je_aload_n (r := some a) D47_80 rfl rfl
theorem D47_81 : decode (jt_code 47) 81 = .ok (.getfield 73, 3) := by decide +kernel
theorem E47_81 {call : jv_F} {l0 l1 : Option Value}  {st : List Value} {m : Nat} {I : Nat → Int32} {A : Nat → Nat → Int32} {L : Nat → Nat → Int64} {rest : Nat → Option jv_C} {z : Nat × Nat} : jv_ev call 47 81 [l0, l1] (.ref m :: st) (jm_H m I A L rest z) = jv_ev call 47 84 [l0, l1] (.ref (m + 20) :: st) (jm_H m I A L rest z) := je_get D47_81 rfl (by decide) jm_g24
theorem D47_84 : decode (jt_code 47) 84 = .ok (.iload_n 1, 1) := by decide +kernel
theorem E47_84 {call : jv_F} {l0 : Option Value} {x : Int32} {st : List Value} {h : jv_H} : jv_ev call 47 84 [l0, some (.int x)] st h = jv_ev call 47 85 [l0, some (.int x)] (.int x :: st) h := je_iload_n D47_84 rfl rfl
theorem D47_85 : decode (jt_code 47) 85 = .ok (.iconst 0, 1) := by decide +kernel
theorem E47_85 {call : jv_F} {l0 l1 : Option Value}  {st : List Value} {h : jv_H} : jv_ev call 47 85 [l0, l1] st h = jv_ev call 47 86 [l0, l1] (.int (nI 0) :: st) h := je_iconst D47_85 rfl (by decide)
theorem D47_86 : decode (jt_code 47) 86 = .ok (.iastore, 1) := by decide +kernel
theorem E47_86 {call : jv_F} {l0 l1 : Option Value} {i : Nat} {v : Int32} {st : List Value} {m : Nat} {I : Nat → Int32} {A : Nat → Nat → Int32} {L : Nat → Nat → Int64} {rest : Nat → Option jv_C} {z : Nat × Nat} (hi : i < 17) : jv_ev call 47 86 [l0, l1] (.int v :: .int (nI i) :: .ref (m + 20) :: st) (jm_H m I A L rest z) = jv_ev call 47 87 [l0, l1] st (jm_H m I (va_up A 24 (upd (A 24) i v)) L rest z) := je_iast D47_86 rfl (jm_s24 hi)
theorem D47_87 : decode (jt_code 47) 87 = .ok (.goto 13, 3) := by decide +kernel
theorem E47_87 {call : jv_F} {l0 l1 : Option Value}  {st : List Value} {h : jv_H} : jv_ev call 47 87 [l0, l1] st h = jv_ev call 47 100 [l0, l1] st h := je_goto D47_87 (by decide)
theorem D47_90 : decode (jt_code 47) 90 = .ok (.aload_n 0, 1) := by decide +kernel
theorem E47_90 {call : jv_F} {l1 : Option Value} {a : Nat} {st : List Value} {h : jv_H} : jv_ev call 47 90 [some (.ref a), l1] st h = jv_ev call 47 91 [some (.ref a), l1] (.ref a :: st) h := je_aload_n (r := some a) D47_90 rfl rfl
theorem D47_91 : decode (jt_code 47) 91 = .ok (.getfield 73, 3) := by decide +kernel
theorem E47_91 {call : jv_F} {l0 l1 : Option Value}  {st : List Value} {m : Nat} {I : Nat → Int32} {A : Nat → Nat → Int32} {L : Nat → Nat → Int64} {rest : Nat → Option jv_C} {z : Nat × Nat} : jv_ev call 47 91 [l0, l1] (.ref m :: st) (jm_H m I A L rest z) = jv_ev call 47 94 [l0, l1] (.ref (m + 20) :: st) (jm_H m I A L rest z) := je_get D47_91 rfl (by decide) jm_g24
theorem D47_94 : decode (jt_code 47) 94 = .ok (.iload_n 1, 1) := by decide +kernel
theorem E47_94 {call : jv_F} {l0 : Option Value} {x : Int32} {st : List Value} {h : jv_H} : jv_ev call 47 94 [l0, some (.int x)] st h = jv_ev call 47 95 [l0, some (.int x)] (.int x :: st) h := je_iload_n D47_94 rfl rfl
theorem D47_95 : decode (jt_code 47) 95 = .ok (.dup2, 1) := by decide +kernel
theorem E47_95 {call : jv_F} {l0 l1 : Option Value} {x : Int32} {a : Nat} {st : List Value} {h : jv_H} : jv_ev call 47 95 [l0, l1] (.int x :: .ref a :: st) h = jv_ev call 47 96 [l0, l1] (.int x :: .ref a :: .int x :: .ref a :: st) h := je_dup2 D47_95 rfl rfl rfl
theorem D47_96 : decode (jt_code 47) 96 = .ok (.iaload, 1) := by decide +kernel
theorem E47_96 {call : jv_F} {l0 l1 : Option Value} {i : Nat} {st : List Value} {m : Nat} {I : Nat → Int32} {A : Nat → Nat → Int32} {L : Nat → Nat → Int64} {rest : Nat → Option jv_C} {z : Nat × Nat} (hi : i < 17) : jv_ev call 47 96 [l0, l1] (.int (nI i) :: .ref (m + 20) :: st) (jm_H m I A L rest z) = jv_ev call 47 97 [l0, l1] (.int (A 24 i) :: st) (jm_H m I A L rest z) := je_iald D47_96 rfl (jm_l24 hi)
theorem D47_97 : decode (jt_code 47) 97 = .ok (.iconst 1, 1) := by decide +kernel
theorem E47_97 {call : jv_F} {l0 l1 : Option Value}  {st : List Value} {h : jv_H} : jv_ev call 47 97 [l0, l1] st h = jv_ev call 47 98 [l0, l1] (.int (nI 1) :: st) h := je_iconst D47_97 rfl (by decide)
theorem D47_98 : decode (jt_code 47) 98 = .ok (.iadd, 1) := by decide +kernel
theorem E47_98 {call : jv_F} {l0 l1 : Option Value} {x y : Int32} {st : List Value} {h : jv_H} : jv_ev call 47 98 [l0, l1] (.int y :: .int x :: st) h = jv_ev call 47 99 [l0, l1] (.int (x + y) :: st) h := je_b2 (f := fun x y => x + y) D47_98 rfl (fun _ => rfl)
theorem D47_99 : decode (jt_code 47) 99 = .ok (.iastore, 1) := by decide +kernel
theorem E47_99 {call : jv_F} {l0 l1 : Option Value} {i : Nat} {v : Int32} {st : List Value} {m : Nat} {I : Nat → Int32} {A : Nat → Nat → Int32} {L : Nat → Nat → Int64} {rest : Nat → Option jv_C} {z : Nat × Nat} (hi : i < 17) : jv_ev call 47 99 [l0, l1] (.int v :: .int (nI i) :: .ref (m + 20) :: st) (jm_H m I A L rest z) = jv_ev call 47 100 [l0, l1] st (jm_H m I (va_up A 24 (upd (A 24) i v)) L rest z) := je_iast D47_99 rfl (jm_s24 hi)
theorem D47_100 : decode (jt_code 47) 100 = .ok (.aload_n 0, 1) := by decide +kernel
theorem E47_100 {call : jv_F} {l1 : Option Value} {a : Nat} {st : List Value} {h : jv_H} : jv_ev call 47 100 [some (.ref a), l1] st h = jv_ev call 47 101 [some (.ref a), l1] (.ref a :: st) h := je_aload_n (r := some a) D47_100 rfl rfl
theorem D47_101 : decode (jt_code 47) 101 = .ok (.getfield 82, 3) := by decide +kernel
theorem E47_101 {call : jv_F} {l0 l1 : Option Value}  {st : List Value} {m : Nat} {I : Nat → Int32} {A : Nat → Nat → Int32} {L : Nat → Nat → Int64} {rest : Nat → Option jv_C} {z : Nat × Nat} : jv_ev call 47 101 [l0, l1] (.ref m :: st) (jm_H m I A L rest z) = jv_ev call 47 104 [l0, l1] (.ref (m + 23) :: st) (jm_H m I A L rest z) := je_get D47_101 rfl (by decide) jm_g27
theorem D47_104 : decode (jt_code 47) 104 = .ok (.iload_n 1, 1) := by decide +kernel
theorem E47_104 {call : jv_F} {l0 : Option Value} {x : Int32} {st : List Value} {h : jv_H} : jv_ev call 47 104 [l0, some (.int x)] st h = jv_ev call 47 105 [l0, some (.int x)] (.int x :: st) h := je_iload_n D47_104 rfl rfl
theorem D47_105 : decode (jt_code 47) 105 = .ok (.iconst 0, 1) := by decide +kernel
theorem E47_105 {call : jv_F} {l0 l1 : Option Value}  {st : List Value} {h : jv_H} : jv_ev call 47 105 [l0, l1] st h = jv_ev call 47 106 [l0, l1] (.int (nI 0) :: st) h := je_iconst D47_105 rfl (by decide)
theorem D47_106 : decode (jt_code 47) 106 = .ok (.bastore, 1) := by decide +kernel
theorem E47_106 {call : jv_F} {l0 l1 : Option Value} {i : Nat} {v : Int32} {st : List Value} {m : Nat} {I : Nat → Int32} {A : Nat → Nat → Int32} {L : Nat → Nat → Int64} {rest : Nat → Option jv_C} {z : Nat × Nat} (hi : i < 17) (hv : narrow .boolean (.int v) = .int v) : jv_ev call 47 106 [l0, l1] (.int v :: .int (nI i) :: .ref (m + 23) :: st) (jm_H m I A L rest z) = jv_ev call 47 107 [l0, l1] st (jm_H m I (va_up A 27 (upd (A 27) i v)) L rest z) := je_bast D47_106 rfl (by rw [hv]; exact jm_s27 hi)
theorem D47_107 : decode (jt_code 47) 107 = .ok (.iinc 1 1, 3) := by decide +kernel
theorem E47_107 {call : jv_F} {l0 : Option Value} {x : Int32} {st : List Value} {h : jv_H} (hk : ¬ jv_is2 (some l0) = true) : jv_ev call 47 107 [l0, some (.int x)] st h = jv_ev call 47 110 [l0, some (.int (x + (nI 1)))] st h := je_iinc D47_107 rfl rfl (v := x + (nI 1)) (by rfl) (by show jv_st1 _ 1 _ = _; simp only [jv_st1, jv_kill, List.getElem?_cons_succ, List.getElem?_cons_zero, hk, if_false]; rfl)
theorem D47_110 : decode (jt_code 47) 110 = .ok (.goto (-98), 3) := by decide +kernel
theorem E47_110 {call : jv_F} {l0 l1 : Option Value}  {st : List Value} {h : jv_H} : jv_ev call 47 110 [l0, l1] st h = jv_ev call 47 12 [l0, l1] st h := je_goto D47_110 (by decide)
theorem D47_113 : decode (jt_code 47) 113 = .ok (.return_, 1) := by decide +kernel
theorem E47_113 {call : jv_F} {l0 l1 : Option Value}  {h : jv_H} : jv_ev call 47 113 [l0, l1] [] h = some (none, h) := je_ret D47_113 rfl
/-! method 48: DrumMachineModel.isJob -/
theorem N48 {d : Nat} {b : Nat} {a0 : Int32} {h : jv_H} : jv_run (d + 1) 48 [.ref b, .int a0] h = jv_ev (jv_run d) 48 0 [some (.ref b), some (.int a0)] [] h := jv_run_eq (Nat.le_of_ble_eq_true rfl) rfl
theorem D48_0 : decode (jt_code 48) 0 = .ok (.iload_n 1, 1) := by decide +kernel
theorem E48_0 {call : jv_F} {l0 : Option Value} {x : Int32} {st : List Value} {h : jv_H} : jv_ev call 48 0 [l0, some (.int x)] st h = jv_ev call 48 1 [l0, some (.int x)] (.int x :: st) h := je_iload_n D48_0 rfl rfl
theorem D48_1 : decode (jt_code 48) 1 = .ok (.ifCond .lt 15, 3) := by decide +kernel
theorem E48_1 {call : jv_F} {l0 l1 : Option Value} {x : Int32} {st : List Value} {h : jv_H} : jv_ev call 48 1 [l0, l1] (.int x :: st) h = if x < 0 then jv_ev call 48 16 [l0, l1] st h else jv_ev call 48 4 [l0, l1] st h := je_ifc D48_1 (by decide) rfl rfl
theorem D48_4 : decode (jt_code 48) 4 = .ok (.iload_n 1, 1) := by decide +kernel
theorem E48_4 {call : jv_F} {l0 : Option Value} {x : Int32} {st : List Value} {h : jv_H} : jv_ev call 48 4 [l0, some (.int x)] st h = jv_ev call 48 5 [l0, some (.int x)] (.int x :: st) h := je_iload_n D48_4 rfl rfl
theorem D48_5 : decode (jt_code 48) 5 = .ok (.aload_n 0, 1) := by decide +kernel
theorem E48_5 {call : jv_F} {l1 : Option Value} {a : Nat} {st : List Value} {h : jv_H} : jv_ev call 48 5 [some (.ref a), l1] st h = jv_ev call 48 6 [some (.ref a), l1] (.ref a :: st) h := je_aload_n (r := some a) D48_5 rfl rfl
theorem D48_6 : decode (jt_code 48) 6 = .ok (.getfield 97, 3) := by decide +kernel
theorem E48_6 {call : jv_F} {l0 l1 : Option Value}  {st : List Value} {m : Nat} {I : Nat → Int32} {A : Nat → Nat → Int32} {L : Nat → Nat → Int64} {rest : Nat → Option jv_C} {z : Nat × Nat} : jv_ev call 48 6 [l0, l1] (.ref m :: st) (jm_H m I A L rest z) = jv_ev call 48 9 [l0, l1] (.int (I 5) :: st) (jm_H m I A L rest z) := je_get D48_6 rfl (by decide) jm_g5
theorem D48_9 : decode (jt_code 48) 9 = .ok (.if_icmp .ge 7, 3) := by decide +kernel
theorem E48_9 {call : jv_F} {l0 l1 : Option Value} {x y : Int32} {st : List Value} {h : jv_H} : jv_ev call 48 9 [l0, l1] (.int y :: .int x :: st) h = if y ≤ x then jv_ev call 48 16 [l0, l1] st h else jv_ev call 48 12 [l0, l1] st h := je_icmp D48_9 (by decide) rfl rfl
theorem D48_12 : decode (jt_code 48) 12 = .ok (.iconst 1, 1) := by decide +kernel
theorem E48_12 {call : jv_F} {l0 l1 : Option Value}  {st : List Value} {h : jv_H} : jv_ev call 48 12 [l0, l1] st h = jv_ev call 48 13 [l0, l1] (.int (nI 1) :: st) h := je_iconst D48_12 rfl (by decide)
theorem D48_13 : decode (jt_code 48) 13 = .ok (.goto 4, 3) := by decide +kernel
theorem E48_13 {call : jv_F} {l0 l1 : Option Value}  {st : List Value} {h : jv_H} : jv_ev call 48 13 [l0, l1] st h = jv_ev call 48 17 [l0, l1] st h := je_goto D48_13 (by decide)
theorem D48_16 : decode (jt_code 48) 16 = .ok (.iconst 0, 1) := by decide +kernel
theorem E48_16 {call : jv_F} {l0 l1 : Option Value}  {st : List Value} {h : jv_H} : jv_ev call 48 16 [l0, l1] st h = jv_ev call 48 17 [l0, l1] (.int (nI 0) :: st) h := je_iconst D48_16 rfl (by decide)
theorem D48_17 : decode (jt_code 48) 17 = .ok (.ireturn, 1) := by decide +kernel
theorem E48_17 {call : jv_F} {l0 l1 : Option Value} {v : Int32} {h : jv_H} (hn : narrow .boolean (.int v) = .int v) (hf : fits .boolean (.int v) = true) : jv_ev call 48 17 [l0, l1] [.int v] h = some (some (.int v), h) := je_iret (ty := .boolean) D48_17 rfl hn hf
/-! method 49: DrumMachineModel.ended -/
theorem N49 {d : Nat} {b : Nat} {a0 : Int32} {h : jv_H} : jv_run (d + 1) 49 [.ref b, .int a0] h = jv_ev (jv_run d) 49 0 [some (.ref b), some (.int a0)] [] h := jv_run_eq (Nat.le_of_ble_eq_true rfl) rfl
theorem D49_0 : decode (jt_code 49) 0 = .ok (.aload_n 0, 1) := by decide +kernel
theorem E49_0 {call : jv_F} {l1 : Option Value} {a : Nat} {st : List Value} {h : jv_H} : jv_ev call 49 0 [some (.ref a), l1] st h = jv_ev call 49 1 [some (.ref a), l1] (.ref a :: st) h := je_aload_n (r := some a) D49_0 rfl rfl
theorem D49_1 : decode (jt_code 49) 1 = .ok (.iload_n 1, 1) := by decide +kernel
theorem E49_1 {call : jv_F} {l0 : Option Value} {x : Int32} {st : List Value} {h : jv_H} : jv_ev call 49 1 [l0, some (.int x)] st h = jv_ev call 49 2 [l0, some (.int x)] (.int x :: st) h := je_iload_n D49_1 rfl rfl
theorem D49_2 : decode (jt_code 49) 2 = .ok (.invokevirtual 297, 3) := by decide +kernel
theorem E49_2 {call : jv_F} {l0 l1 : Option Value} {v0 : Value}  {st : List Value} {m : Nat} {I : Nat → Int32} {A : Nat → Nat → Int32} {L : Nat → Nat → Int64} {rest : Nat → Option jv_C} {z : Nat × Nat} (hw : jv_wide st = true) (hc : (call 48 [.ref m, v0] (jm_H m I A L rest z)).isSome = true) : jv_ev call 49 2 [l0, l1] (v0 :: .ref m :: st) (jm_H m I A L rest z) = jv_ev call 49 5 [l0, l1] ((((call 48 [.ref m, v0] (jm_H m I A L rest z)).getD (none, (jm_H m I A L rest z))).1).toList ++ st) ((call 48 [.ref m, v0] (jm_H m I A L rest z)).getD (none, (jm_H m I A L rest z))).2 := by
  obtain ⟨⟨r, h'⟩, hv⟩ := Option.isSome_iff_exists.mp hc
  rw [hv]
  exact je_virt (y := 48) (as := [v0]) D49_2 rfl (by decide) (by decide) rfl jm_cl hw hv
theorem D49_5 : decode (jt_code 49) 5 = .ok (.ifCond .eq 12, 3) := by decide +kernel
theorem E49_5 {call : jv_F} {l0 l1 : Option Value} {x : Int32} {st : List Value} {h : jv_H} : jv_ev call 49 5 [l0, l1] (.int x :: st) h = if x = 0 then jv_ev call 49 17 [l0, l1] st h else jv_ev call 49 8 [l0, l1] st h := je_ifc D49_5 (by decide) rfl rfl
theorem D49_8 : decode (jt_code 49) 8 = .ok (.aload_n 0, 1) := by decide +kernel
theorem E49_8 {call : jv_F} {l1 : Option Value} {a : Nat} {st : List Value} {h : jv_H} : jv_ev call 49 8 [some (.ref a), l1] st h = jv_ev call 49 9 [some (.ref a), l1] (.ref a :: st) h := je_aload_n (r := some a) D49_8 rfl rfl
theorem D49_9 : decode (jt_code 49) 9 = .ok (.getfield 27, 3) := by decide +kernel
theorem E49_9 {call : jv_F} {l0 l1 : Option Value}  {st : List Value} {m : Nat} {I : Nat → Int32} {A : Nat → Nat → Int32} {L : Nat → Nat → Int64} {rest : Nat → Option jv_C} {z : Nat × Nat} : jv_ev call 49 9 [l0, l1] (.ref m :: st) (jm_H m I A L rest z) = jv_ev call 49 12 [l0, l1] (.ref (m + 5) :: st) (jm_H m I A L rest z) := je_get D49_9 rfl (by decide) jm_g8
theorem D49_12 : decode (jt_code 49) 12 = .ok (.iload_n 1, 1) := by decide +kernel
theorem E49_12 {call : jv_F} {l0 : Option Value} {x : Int32} {st : List Value} {h : jv_H} : jv_ev call 49 12 [l0, some (.int x)] st h = jv_ev call 49 13 [l0, some (.int x)] (.int x :: st) h := je_iload_n D49_12 rfl rfl
theorem D49_13 : decode (jt_code 49) 13 = .ok (.iaload, 1) := by decide +kernel
theorem E49_13 {call : jv_F} {l0 l1 : Option Value} {i : Nat} {st : List Value} {m : Nat} {I : Nat → Int32} {A : Nat → Nat → Int32} {L : Nat → Nat → Int64} {rest : Nat → Option jv_C} {z : Nat × Nat} (hi : i < 12) : jv_ev call 49 13 [l0, l1] (.int (nI i) :: .ref (m + 5) :: st) (jm_H m I A L rest z) = jv_ev call 49 14 [l0, l1] (.int (A 8 i) :: st) (jm_H m I A L rest z) := je_iald D49_13 rfl (jm_l8 hi)
theorem D49_14 : decode (jt_code 49) 14 = .ok (.goto 4, 3) := by decide +kernel
theorem E49_14 {call : jv_F} {l0 l1 : Option Value}  {st : List Value} {h : jv_H} : jv_ev call 49 14 [l0, l1] st h = jv_ev call 49 18 [l0, l1] st h := je_goto D49_14 (by decide)
theorem D49_17 : decode (jt_code 49) 17 = .ok (.iconst (-1), 1) := by decide +kernel
theorem E49_17 {call : jv_F} {l0 l1 : Option Value}  {st : List Value} {h : jv_H} : jv_ev call 49 17 [l0, l1] st h = jv_ev call 49 18 [l0, l1] (.int (-1) :: st) h := je_iconst D49_17 rfl (by decide)
theorem D49_18 : decode (jt_code 49) 18 = .ok (.ireturn, 1) := by decide +kernel
theorem E49_18 {call : jv_F} {l0 l1 : Option Value} {v : Int32} {h : jv_H} : jv_ev call 49 18 [l0, l1] [.int v] h = some (some (.int v), h) := je_iret (ty := .int) D49_18 rfl rfl rfl
/-! method 50: DrumMachineModel.done -/
theorem N50 {d : Nat} {b : Nat} {a0 : Int32} {h : jv_H} : jv_run (d + 1) 50 [.ref b, .int a0] h = jv_ev (jv_run d) 50 0 [some (.ref b), some (.int a0)] [] h := jv_run_eq (Nat.le_of_ble_eq_true rfl) rfl
theorem D50_0 : decode (jt_code 50) 0 = .ok (.aload_n 0, 1) := by decide +kernel
theorem E50_0 {call : jv_F} {l1 : Option Value} {a : Nat} {st : List Value} {h : jv_H} : jv_ev call 50 0 [some (.ref a), l1] st h = jv_ev call 50 1 [some (.ref a), l1] (.ref a :: st) h := je_aload_n (r := some a) D50_0 rfl rfl
theorem D50_1 : decode (jt_code 50) 1 = .ok (.iload_n 1, 1) := by decide +kernel
theorem E50_1 {call : jv_F} {l0 : Option Value} {x : Int32} {st : List Value} {h : jv_H} : jv_ev call 50 1 [l0, some (.int x)] st h = jv_ev call 50 2 [l0, some (.int x)] (.int x :: st) h := je_iload_n D50_1 rfl rfl
theorem D50_2 : decode (jt_code 50) 2 = .ok (.invokevirtual 297, 3) := by decide +kernel
theorem E50_2 {call : jv_F} {l0 l1 : Option Value} {v0 : Value}  {st : List Value} {m : Nat} {I : Nat → Int32} {A : Nat → Nat → Int32} {L : Nat → Nat → Int64} {rest : Nat → Option jv_C} {z : Nat × Nat} (hw : jv_wide st = true) (hc : (call 48 [.ref m, v0] (jm_H m I A L rest z)).isSome = true) : jv_ev call 50 2 [l0, l1] (v0 :: .ref m :: st) (jm_H m I A L rest z) = jv_ev call 50 5 [l0, l1] ((((call 48 [.ref m, v0] (jm_H m I A L rest z)).getD (none, (jm_H m I A L rest z))).1).toList ++ st) ((call 48 [.ref m, v0] (jm_H m I A L rest z)).getD (none, (jm_H m I A L rest z))).2 := by
  obtain ⟨⟨r, h'⟩, hv⟩ := Option.isSome_iff_exists.mp hc
  rw [hv]
  exact je_virt (y := 48) (as := [v0]) D50_2 rfl (by decide) (by decide) rfl jm_cl hw hv
theorem D50_5 : decode (jt_code 50) 5 = .ok (.ifCond .eq 12, 3) := by decide +kernel
theorem E50_5 {call : jv_F} {l0 l1 : Option Value} {x : Int32} {st : List Value} {h : jv_H} : jv_ev call 50 5 [l0, l1] (.int x :: st) h = if x = 0 then jv_ev call 50 17 [l0, l1] st h else jv_ev call 50 8 [l0, l1] st h := je_ifc D50_5 (by decide) rfl rfl
theorem D50_8 : decode (jt_code 50) 8 = .ok (.aload_n 0, 1) := by decide +kernel
theorem E50_8 {call : jv_F} {l1 : Option Value} {a : Nat} {st : List Value} {h : jv_H} : jv_ev call 50 8 [some (.ref a), l1] st h = jv_ev call 50 9 [some (.ref a), l1] (.ref a :: st) h := je_aload_n (r := some a) D50_8 rfl rfl
theorem D50_9 : decode (jt_code 50) 9 = .ok (.getfield 24, 3) := by decide +kernel
theorem E50_9 {call : jv_F} {l0 l1 : Option Value}  {st : List Value} {m : Nat} {I : Nat → Int32} {A : Nat → Nat → Int32} {L : Nat → Nat → Int64} {rest : Nat → Option jv_C} {z : Nat × Nat} : jv_ev call 50 9 [l0, l1] (.ref m :: st) (jm_H m I A L rest z) = jv_ev call 50 12 [l0, l1] (.ref (m + 4) :: st) (jm_H m I A L rest z) := je_get D50_9 rfl (by decide) jm_g7
theorem D50_12 : decode (jt_code 50) 12 = .ok (.iload_n 1, 1) := by decide +kernel
theorem E50_12 {call : jv_F} {l0 : Option Value} {x : Int32} {st : List Value} {h : jv_H} : jv_ev call 50 12 [l0, some (.int x)] st h = jv_ev call 50 13 [l0, some (.int x)] (.int x :: st) h := je_iload_n D50_12 rfl rfl
theorem D50_13 : decode (jt_code 50) 13 = .ok (.iaload, 1) := by decide +kernel
theorem E50_13 {call : jv_F} {l0 l1 : Option Value} {i : Nat} {st : List Value} {m : Nat} {I : Nat → Int32} {A : Nat → Nat → Int32} {L : Nat → Nat → Int64} {rest : Nat → Option jv_C} {z : Nat × Nat} (hi : i < 12) : jv_ev call 50 13 [l0, l1] (.int (nI i) :: .ref (m + 4) :: st) (jm_H m I A L rest z) = jv_ev call 50 14 [l0, l1] (.int (A 7 i) :: st) (jm_H m I A L rest z) := je_iald D50_13 rfl (jm_l7 hi)
theorem D50_14 : decode (jt_code 50) 14 = .ok (.goto 4, 3) := by decide +kernel
theorem E50_14 {call : jv_F} {l0 l1 : Option Value}  {st : List Value} {h : jv_H} : jv_ev call 50 14 [l0, l1] st h = jv_ev call 50 18 [l0, l1] st h := je_goto D50_14 (by decide)
theorem D50_17 : decode (jt_code 50) 17 = .ok (.iconst (-1), 1) := by decide +kernel
theorem E50_17 {call : jv_F} {l0 l1 : Option Value}  {st : List Value} {h : jv_H} : jv_ev call 50 17 [l0, l1] st h = jv_ev call 50 18 [l0, l1] (.int (-1) :: st) h := je_iconst D50_17 rfl (by decide)
theorem D50_18 : decode (jt_code 50) 18 = .ok (.ireturn, 1) := by decide +kernel
theorem E50_18 {call : jv_F} {l0 l1 : Option Value} {v : Int32} {h : jv_H} : jv_ev call 50 18 [l0, l1] [.int v] h = some (some (.int v), h) := je_iret (ty := .int) D50_18 rfl rfl rfl
/-! method 51: DrumMachineModel.printed -/
theorem N51 {d : Nat} {b : Nat} {a0 : Int32} {h : jv_H} : jv_run (d + 1) 51 [.ref b, .int a0] h = jv_ev (jv_run d) 51 0 [some (.ref b), some (.int a0)] [] h := jv_run_eq (Nat.le_of_ble_eq_true rfl) rfl
theorem D51_0 : decode (jt_code 51) 0 = .ok (.aload_n 0, 1) := by decide +kernel
theorem E51_0 {call : jv_F} {l1 : Option Value} {a : Nat} {st : List Value} {h : jv_H} : jv_ev call 51 0 [some (.ref a), l1] st h = jv_ev call 51 1 [some (.ref a), l1] (.ref a :: st) h := je_aload_n (r := some a) D51_0 rfl rfl
theorem D51_1 : decode (jt_code 51) 1 = .ok (.iload_n 1, 1) := by decide +kernel
theorem E51_1 {call : jv_F} {l0 : Option Value} {x : Int32} {st : List Value} {h : jv_H} : jv_ev call 51 1 [l0, some (.int x)] st h = jv_ev call 51 2 [l0, some (.int x)] (.int x :: st) h := je_iload_n D51_1 rfl rfl
theorem D51_2 : decode (jt_code 51) 2 = .ok (.invokevirtual 297, 3) := by decide +kernel
theorem E51_2 {call : jv_F} {l0 l1 : Option Value} {v0 : Value}  {st : List Value} {m : Nat} {I : Nat → Int32} {A : Nat → Nat → Int32} {L : Nat → Nat → Int64} {rest : Nat → Option jv_C} {z : Nat × Nat} (hw : jv_wide st = true) (hc : (call 48 [.ref m, v0] (jm_H m I A L rest z)).isSome = true) : jv_ev call 51 2 [l0, l1] (v0 :: .ref m :: st) (jm_H m I A L rest z) = jv_ev call 51 5 [l0, l1] ((((call 48 [.ref m, v0] (jm_H m I A L rest z)).getD (none, (jm_H m I A L rest z))).1).toList ++ st) ((call 48 [.ref m, v0] (jm_H m I A L rest z)).getD (none, (jm_H m I A L rest z))).2 := by
  obtain ⟨⟨r, h'⟩, hv⟩ := Option.isSome_iff_exists.mp hc
  rw [hv]
  exact je_virt (y := 48) (as := [v0]) D51_2 rfl (by decide) (by decide) rfl jm_cl hw hv
theorem D51_5 : decode (jt_code 51) 5 = .ok (.ifCond .eq 12, 3) := by decide +kernel
theorem E51_5 {call : jv_F} {l0 l1 : Option Value} {x : Int32} {st : List Value} {h : jv_H} : jv_ev call 51 5 [l0, l1] (.int x :: st) h = if x = 0 then jv_ev call 51 17 [l0, l1] st h else jv_ev call 51 8 [l0, l1] st h := je_ifc D51_5 (by decide) rfl rfl
theorem D51_8 : decode (jt_code 51) 8 = .ok (.aload_n 0, 1) := by decide +kernel
theorem E51_8 {call : jv_F} {l1 : Option Value} {a : Nat} {st : List Value} {h : jv_H} : jv_ev call 51 8 [some (.ref a), l1] st h = jv_ev call 51 9 [some (.ref a), l1] (.ref a :: st) h := je_aload_n (r := some a) D51_8 rfl rfl
theorem D51_9 : decode (jt_code 51) 9 = .ok (.getfield 54, 3) := by decide +kernel
theorem E51_9 {call : jv_F} {l0 l1 : Option Value}  {st : List Value} {m : Nat} {I : Nat → Int32} {A : Nat → Nat → Int32} {L : Nat → Nat → Int64} {rest : Nat → Option jv_C} {z : Nat × Nat} : jv_ev call 51 9 [l0, l1] (.ref m :: st) (jm_H m I A L rest z) = jv_ev call 51 12 [l0, l1] (.ref (m + 14) :: st) (jm_H m I A L rest z) := je_get D51_9 rfl (by decide) jm_g17
theorem D51_12 : decode (jt_code 51) 12 = .ok (.iload_n 1, 1) := by decide +kernel
theorem E51_12 {call : jv_F} {l0 : Option Value} {x : Int32} {st : List Value} {h : jv_H} : jv_ev call 51 12 [l0, some (.int x)] st h = jv_ev call 51 13 [l0, some (.int x)] (.int x :: st) h := je_iload_n D51_12 rfl rfl
theorem D51_13 : decode (jt_code 51) 13 = .ok (.iaload, 1) := by decide +kernel
theorem E51_13 {call : jv_F} {l0 l1 : Option Value} {i : Nat} {st : List Value} {m : Nat} {I : Nat → Int32} {A : Nat → Nat → Int32} {L : Nat → Nat → Int64} {rest : Nat → Option jv_C} {z : Nat × Nat} (hi : i < 12) : jv_ev call 51 13 [l0, l1] (.int (nI i) :: .ref (m + 14) :: st) (jm_H m I A L rest z) = jv_ev call 51 14 [l0, l1] (.int (A 17 i) :: st) (jm_H m I A L rest z) := je_iald D51_13 rfl (jm_l17 hi)
theorem D51_14 : decode (jt_code 51) 14 = .ok (.goto 4, 3) := by decide +kernel
theorem E51_14 {call : jv_F} {l0 l1 : Option Value}  {st : List Value} {h : jv_H} : jv_ev call 51 14 [l0, l1] st h = jv_ev call 51 18 [l0, l1] st h := je_goto D51_14 (by decide)
theorem D51_17 : decode (jt_code 51) 17 = .ok (.iconst (-1), 1) := by decide +kernel
theorem E51_17 {call : jv_F} {l0 l1 : Option Value}  {st : List Value} {h : jv_H} : jv_ev call 51 17 [l0, l1] st h = jv_ev call 51 18 [l0, l1] (.int (-1) :: st) h := je_iconst D51_17 rfl (by decide)
theorem D51_18 : decode (jt_code 51) 18 = .ok (.ireturn, 1) := by decide +kernel
theorem E51_18 {call : jv_F} {l0 l1 : Option Value} {v : Int32} {h : jv_H} : jv_ev call 51 18 [l0, l1] [.int v] h = some (some (.int v), h) := je_iret (ty := .int) D51_18 rfl rfl rfl
/-! method 52: DrumMachineModel.out -/
theorem N52 {d : Nat} {b : Nat} {a0 : Int32} {a1 : Int32} {h : jv_H} : jv_run (d + 1) 52 [.ref b, .int a0, .int a1] h = jv_ev (jv_run d) 52 0 [some (.ref b), some (.int a0), some (.int a1)] [] h := jv_run_eq (Nat.le_of_ble_eq_true rfl) rfl
theorem D52_0 : decode (jt_code 52) 0 = .ok (.aload_n 0, 1) := by decide +kernel
theorem E52_0 {call : jv_F} {l1 l2 : Option Value} {a : Nat} {st : List Value} {h : jv_H} : jv_ev call 52 0 [some (.ref a), l1, l2] st h = jv_ev call 52 1 [some (.ref a), l1, l2] (.ref a :: st) h := je_aload_n (r := some a) D52_0 rfl rfl
theorem D52_1 : decode (jt_code 52) 1 = .ok (.iload_n 1, 1) := by decide +kernel
theorem E52_1 {call : jv_F} {l0 l2 : Option Value} {x : Int32} {st : List Value} {h : jv_H} : jv_ev call 52 1 [l0, some (.int x), l2] st h = jv_ev call 52 2 [l0, some (.int x), l2] (.int x :: st) h := je_iload_n D52_1 rfl rfl
theorem D52_2 : decode (jt_code 52) 2 = .ok (.invokevirtual 297, 3) := by decide +kernel
theorem E52_2 {call : jv_F} {l0 l1 l2 : Option Value} {v0 : Value}  {st : List Value} {m : Nat} {I : Nat → Int32} {A : Nat → Nat → Int32} {L : Nat → Nat → Int64} {rest : Nat → Option jv_C} {z : Nat × Nat} (hw : jv_wide st = true) (hc : (call 48 [.ref m, v0] (jm_H m I A L rest z)).isSome = true) : jv_ev call 52 2 [l0, l1, l2] (v0 :: .ref m :: st) (jm_H m I A L rest z) = jv_ev call 52 5 [l0, l1, l2] ((((call 48 [.ref m, v0] (jm_H m I A L rest z)).getD (none, (jm_H m I A L rest z))).1).toList ++ st) ((call 48 [.ref m, v0] (jm_H m I A L rest z)).getD (none, (jm_H m I A L rest z))).2 := by
  obtain ⟨⟨r, h'⟩, hv⟩ := Option.isSome_iff_exists.mp hc
  rw [hv]
  exact je_virt (y := 48) (as := [v0]) D52_2 rfl (by decide) (by decide) rfl jm_cl hw hv
theorem D52_5 : decode (jt_code 52) 5 = .ok (.ifCond .eq 32, 3) := by decide +kernel
theorem E52_5 {call : jv_F} {l0 l1 l2 : Option Value} {x : Int32} {st : List Value} {h : jv_H} : jv_ev call 52 5 [l0, l1, l2] (.int x :: st) h = if x = 0 then jv_ev call 52 37 [l0, l1, l2] st h else jv_ev call 52 8 [l0, l1, l2] st h := je_ifc D52_5 (by decide) rfl rfl
theorem D52_8 : decode (jt_code 52) 8 = .ok (.iload_n 2, 1) := by decide +kernel
theorem E52_8 {call : jv_F} {l0 l1 : Option Value} {x : Int32} {st : List Value} {h : jv_H} : jv_ev call 52 8 [l0, l1, some (.int x)] st h = jv_ev call 52 9 [l0, l1, some (.int x)] (.int x :: st) h := je_iload_n D52_8 rfl rfl
theorem D52_9 : decode (jt_code 52) 9 = .ok (.ifCond .lt 28, 3) := by decide +kernel
theorem E52_9 {call : jv_F} {l0 l1 l2 : Option Value} {x : Int32} {st : List Value} {h : jv_H} : jv_ev call 52 9 [l0, l1, l2] (.int x :: st) h = if x < 0 then jv_ev call 52 37 [l0, l1, l2] st h else jv_ev call 52 12 [l0, l1, l2] st h := je_ifc D52_9 (by decide) rfl rfl
theorem D52_12 : decode (jt_code 52) 12 = .ok (.iload_n 2, 1) := by decide +kernel
theorem E52_12 {call : jv_F} {l0 l1 : Option Value} {x : Int32} {st : List Value} {h : jv_H} : jv_ev call 52 12 [l0, l1, some (.int x)] st h = jv_ev call 52 13 [l0, l1, some (.int x)] (.int x :: st) h := je_iload_n D52_12 rfl rfl
theorem D52_13 : decode (jt_code 52) 13 = .ok (.aload_n 0, 1) := by decide +kernel
theorem E52_13 {call : jv_F} {l1 l2 : Option Value} {a : Nat} {st : List Value} {h : jv_H} : jv_ev call 52 13 [some (.ref a), l1, l2] st h = jv_ev call 52 14 [some (.ref a), l1, l2] (.ref a :: st) h := je_aload_n (r := some a) D52_13 rfl rfl
theorem D52_14 : decode (jt_code 52) 14 = .ok (.getfield 54, 3) := by decide +kernel
theorem E52_14 {call : jv_F} {l0 l1 l2 : Option Value}  {st : List Value} {m : Nat} {I : Nat → Int32} {A : Nat → Nat → Int32} {L : Nat → Nat → Int64} {rest : Nat → Option jv_C} {z : Nat × Nat} : jv_ev call 52 14 [l0, l1, l2] (.ref m :: st) (jm_H m I A L rest z) = jv_ev call 52 17 [l0, l1, l2] (.ref (m + 14) :: st) (jm_H m I A L rest z) := je_get D52_14 rfl (by decide) jm_g17
theorem D52_17 : decode (jt_code 52) 17 = .ok (.iload_n 1, 1) := by decide +kernel
theorem E52_17 {call : jv_F} {l0 l2 : Option Value} {x : Int32} {st : List Value} {h : jv_H} : jv_ev call 52 17 [l0, some (.int x), l2] st h = jv_ev call 52 18 [l0, some (.int x), l2] (.int x :: st) h := je_iload_n D52_17 rfl rfl
theorem D52_18 : decode (jt_code 52) 18 = .ok (.iaload, 1) := by decide +kernel
theorem E52_18 {call : jv_F} {l0 l1 l2 : Option Value} {i : Nat} {st : List Value} {m : Nat} {I : Nat → Int32} {A : Nat → Nat → Int32} {L : Nat → Nat → Int64} {rest : Nat → Option jv_C} {z : Nat × Nat} (hi : i < 12) : jv_ev call 52 18 [l0, l1, l2] (.int (nI i) :: .ref (m + 14) :: st) (jm_H m I A L rest z) = jv_ev call 52 19 [l0, l1, l2] (.int (A 17 i) :: st) (jm_H m I A L rest z) := je_iald D52_18 rfl (jm_l17 hi)
theorem D52_19 : decode (jt_code 52) 19 = .ok (.if_icmp .ge 18, 3) := by decide +kernel
theorem E52_19 {call : jv_F} {l0 l1 l2 : Option Value} {x y : Int32} {st : List Value} {h : jv_H} : jv_ev call 52 19 [l0, l1, l2] (.int y :: .int x :: st) h = if y ≤ x then jv_ev call 52 37 [l0, l1, l2] st h else jv_ev call 52 22 [l0, l1, l2] st h := je_icmp D52_19 (by decide) rfl rfl
theorem D52_22 : decode (jt_code 52) 22 = .ok (.aload_n 0, 1) := by decide +kernel
theorem E52_22 {call : jv_F} {l1 l2 : Option Value} {a : Nat} {st : List Value} {h : jv_H} : jv_ev call 52 22 [some (.ref a), l1, l2] st h = jv_ev call 52 23 [some (.ref a), l1, l2] (.ref a :: st) h := je_aload_n (r := some a) D52_22 rfl rfl
theorem D52_23 : decode (jt_code 52) 23 = .ok (.getfield 51, 3) := by decide +kernel
theorem E52_23 {call : jv_F} {l0 l1 l2 : Option Value}  {st : List Value} {m : Nat} {I : Nat → Int32} {A : Nat → Nat → Int32} {L : Nat → Nat → Int64} {rest : Nat → Option jv_C} {z : Nat × Nat} : jv_ev call 52 23 [l0, l1, l2] (.ref m :: st) (jm_H m I A L rest z) = jv_ev call 52 26 [l0, l1, l2] (.ref (m + 13) :: st) (jm_H m I A L rest z) := je_get D52_23 rfl (by decide) jm_g16
theorem D52_26 : decode (jt_code 52) 26 = .ok (.sipush 400, 3) := by decide +kernel
theorem E52_26 {call : jv_F} {l0 l1 l2 : Option Value}  {st : List Value} {h : jv_H} : jv_ev call 52 26 [l0, l1, l2] st h = jv_ev call 52 29 [l0, l1, l2] (.int (nI 400) :: st) h := je_sipush D52_26 rfl (by decide)
theorem D52_29 : decode (jt_code 52) 29 = .ok (.iload_n 1, 1) := by decide +kernel
theorem E52_29 {call : jv_F} {l0 l2 : Option Value} {x : Int32} {st : List Value} {h : jv_H} : jv_ev call 52 29 [l0, some (.int x), l2] st h = jv_ev call 52 30 [l0, some (.int x), l2] (.int x :: st) h := je_iload_n D52_29 rfl rfl
theorem D52_30 : decode (jt_code 52) 30 = .ok (.imul, 1) := by decide +kernel
theorem E52_30 {call : jv_F} {l0 l1 l2 : Option Value} {x y : Int32} {st : List Value} {h : jv_H} : jv_ev call 52 30 [l0, l1, l2] (.int y :: .int x :: st) h = jv_ev call 52 31 [l0, l1, l2] (.int (x * y) :: st) h := je_b2 (f := fun x y => x * y) D52_30 rfl (fun _ => rfl)
theorem D52_31 : decode (jt_code 52) 31 = .ok (.iload_n 2, 1) := by decide +kernel
theorem E52_31 {call : jv_F} {l0 l1 : Option Value} {x : Int32} {st : List Value} {h : jv_H} : jv_ev call 52 31 [l0, l1, some (.int x)] st h = jv_ev call 52 32 [l0, l1, some (.int x)] (.int x :: st) h := je_iload_n D52_31 rfl rfl
theorem D52_32 : decode (jt_code 52) 32 = .ok (.iadd, 1) := by decide +kernel
theorem E52_32 {call : jv_F} {l0 l1 l2 : Option Value} {x y : Int32} {st : List Value} {h : jv_H} : jv_ev call 52 32 [l0, l1, l2] (.int y :: .int x :: st) h = jv_ev call 52 33 [l0, l1, l2] (.int (x + y) :: st) h := je_b2 (f := fun x y => x + y) D52_32 rfl (fun _ => rfl)
theorem D52_33 : decode (jt_code 52) 33 = .ok (.iaload, 1) := by decide +kernel
theorem E52_33 {call : jv_F} {l0 l1 l2 : Option Value} {i : Nat} {st : List Value} {m : Nat} {I : Nat → Int32} {A : Nat → Nat → Int32} {L : Nat → Nat → Int64} {rest : Nat → Option jv_C} {z : Nat × Nat} (hi : i < 4800) : jv_ev call 52 33 [l0, l1, l2] (.int (nI i) :: .ref (m + 13) :: st) (jm_H m I A L rest z) = jv_ev call 52 34 [l0, l1, l2] (.int (A 16 i) :: st) (jm_H m I A L rest z) := je_iald D52_33 rfl (jm_l16 hi)
theorem D52_34 : decode (jt_code 52) 34 = .ok (.goto 4, 3) := by decide +kernel
theorem E52_34 {call : jv_F} {l0 l1 l2 : Option Value}  {st : List Value} {h : jv_H} : jv_ev call 52 34 [l0, l1, l2] st h = jv_ev call 52 38 [l0, l1, l2] st h := je_goto D52_34 (by decide)
theorem D52_37 : decode (jt_code 52) 37 = .ok (.iconst (-1), 1) := by decide +kernel
theorem E52_37 {call : jv_F} {l0 l1 l2 : Option Value}  {st : List Value} {h : jv_H} : jv_ev call 52 37 [l0, l1, l2] st h = jv_ev call 52 38 [l0, l1, l2] (.int (-1) :: st) h := je_iconst D52_37 rfl (by decide)
theorem D52_38 : decode (jt_code 52) 38 = .ok (.ireturn, 1) := by decide +kernel
theorem E52_38 {call : jv_F} {l0 l1 l2 : Option Value} {v : Int32} {h : jv_H} : jv_ev call 52 38 [l0, l1, l2] [.int v] h = some (some (.int v), h) := je_iret (ty := .int) D52_38 rfl rfl rfl
/-! method 53: DrumMachineModel.register -/
theorem N53 {d : Nat} {b : Nat} {a0 : Int32} {a1 : Int32} {h : jv_H} : jv_run (d + 1) 53 [.ref b, .int a0, .int a1] h = jv_ev (jv_run d) 53 0 [some (.ref b), some (.int a0), some (.int a1)] [] h := jv_run_eq (Nat.le_of_ble_eq_true rfl) rfl
theorem D53_0 : decode (jt_code 53) 0 = .ok (.aload_n 0, 1) := by decide +kernel
theorem E53_0 {call : jv_F} {l1 l2 : Option Value} {a : Nat} {st : List Value} {h : jv_H} : jv_ev call 53 0 [some (.ref a), l1, l2] st h = jv_ev call 53 1 [some (.ref a), l1, l2] (.ref a :: st) h := je_aload_n (r := some a) D53_0 rfl rfl
theorem D53_1 : decode (jt_code 53) 1 = .ok (.iload_n 1, 1) := by decide +kernel
theorem E53_1 {call : jv_F} {l0 l2 : Option Value} {x : Int32} {st : List Value} {h : jv_H} : jv_ev call 53 1 [l0, some (.int x), l2] st h = jv_ev call 53 2 [l0, some (.int x), l2] (.int x :: st) h := je_iload_n D53_1 rfl rfl
theorem D53_2 : decode (jt_code 53) 2 = .ok (.invokevirtual 297, 3) := by decide +kernel
theorem E53_2 {call : jv_F} {l0 l1 l2 : Option Value} {v0 : Value}  {st : List Value} {m : Nat} {I : Nat → Int32} {A : Nat → Nat → Int32} {L : Nat → Nat → Int64} {rest : Nat → Option jv_C} {z : Nat × Nat} (hw : jv_wide st = true) (hc : (call 48 [.ref m, v0] (jm_H m I A L rest z)).isSome = true) : jv_ev call 53 2 [l0, l1, l2] (v0 :: .ref m :: st) (jm_H m I A L rest z) = jv_ev call 53 5 [l0, l1, l2] ((((call 48 [.ref m, v0] (jm_H m I A L rest z)).getD (none, (jm_H m I A L rest z))).1).toList ++ st) ((call 48 [.ref m, v0] (jm_H m I A L rest z)).getD (none, (jm_H m I A L rest z))).2 := by
  obtain ⟨⟨r, h'⟩, hv⟩ := Option.isSome_iff_exists.mp hc
  rw [hv]
  exact je_virt (y := 48) (as := [v0]) D53_2 rfl (by decide) (by decide) rfl jm_cl hw hv
theorem D53_5 : decode (jt_code 53) 5 = .ok (.ifCond .eq 15, 3) := by decide +kernel
theorem E53_5 {call : jv_F} {l0 l1 l2 : Option Value} {x : Int32} {st : List Value} {h : jv_H} : jv_ev call 53 5 [l0, l1, l2] (.int x :: st) h = if x = 0 then jv_ev call 53 20 [l0, l1, l2] st h else jv_ev call 53 8 [l0, l1, l2] st h := je_ifc D53_5 (by decide) rfl rfl
theorem D53_8 : decode (jt_code 53) 8 = .ok (.iload_n 2, 1) := by decide +kernel
theorem E53_8 {call : jv_F} {l0 l1 : Option Value} {x : Int32} {st : List Value} {h : jv_H} : jv_ev call 53 8 [l0, l1, some (.int x)] st h = jv_ev call 53 9 [l0, l1, some (.int x)] (.int x :: st) h := je_iload_n D53_8 rfl rfl
theorem D53_9 : decode (jt_code 53) 9 = .ok (.iconst (-1), 1) := by decide +kernel
theorem E53_9 {call : jv_F} {l0 l1 l2 : Option Value}  {st : List Value} {h : jv_H} : jv_ev call 53 9 [l0, l1, l2] st h = jv_ev call 53 10 [l0, l1, l2] (.int (-1) :: st) h := je_iconst D53_9 rfl (by decide)
theorem D53_10 : decode (jt_code 53) 10 = .ok (.if_icmp .lt 10, 3) := by decide +kernel
theorem E53_10 {call : jv_F} {l0 l1 l2 : Option Value} {x y : Int32} {st : List Value} {h : jv_H} : jv_ev call 53 10 [l0, l1, l2] (.int y :: .int x :: st) h = if x < y then jv_ev call 53 20 [l0, l1, l2] st h else jv_ev call 53 13 [l0, l1, l2] st h := je_icmp D53_10 (by decide) rfl rfl
theorem D53_13 : decode (jt_code 53) 13 = .ok (.iload_n 2, 1) := by decide +kernel
theorem E53_13 {call : jv_F} {l0 l1 : Option Value} {x : Int32} {st : List Value} {h : jv_H} : jv_ev call 53 13 [l0, l1, some (.int x)] st h = jv_ev call 53 14 [l0, l1, some (.int x)] (.int x :: st) h := je_iload_n D53_13 rfl rfl
theorem D53_14 : decode (jt_code 53) 14 = .ok (.sipush 128, 3) := by decide +kernel
theorem E53_14 {call : jv_F} {l0 l1 l2 : Option Value}  {st : List Value} {h : jv_H} : jv_ev call 53 14 [l0, l1, l2] st h = jv_ev call 53 17 [l0, l1, l2] (.int (nI 128) :: st) h := je_sipush D53_14 rfl (by decide)
theorem D53_17 : decode (jt_code 53) 17 = .ok (.if_icmp .le 5, 3) := by decide +kernel
theorem E53_17 {call : jv_F} {l0 l1 l2 : Option Value} {x y : Int32} {st : List Value} {h : jv_H} : jv_ev call 53 17 [l0, l1, l2] (.int y :: .int x :: st) h = if x ≤ y then jv_ev call 53 22 [l0, l1, l2] st h else jv_ev call 53 20 [l0, l1, l2] st h := je_icmp D53_17 (by decide) rfl rfl
theorem D53_20 : decode (jt_code 53) 20 = .ok (.lconst 0, 1) := by decide +kernel
theorem E53_20 {call : jv_F} {l0 l1 l2 : Option Value}  {st : List Value} {h : jv_H} : jv_ev call 53 20 [l0, l1, l2] st h = jv_ev call 53 21 [l0, l1, l2] (.long 0 :: st) h := je_lconst D53_20 rfl (by decide)
theorem D53_21 : decode (jt_code 53) 21 = .ok (.lreturn, 1) := by decide +kernel
theorem E53_21 {call : jv_F} {l0 l1 l2 : Option Value} {v : Int64} {h : jv_H} : jv_ev call 53 21 [l0, l1, l2] [.long v] h = some (some (.long v), h) := je_lret D53_21 rfl
theorem D53_22 : decode (jt_code 53) 22 = .ok (.iload_n 2, 1) := by decide +kernel
theorem E53_22 {call : jv_F} {l0 l1 : Option Value} {x : Int32} {st : List Value} {h : jv_H} : jv_ev call 53 22 [l0, l1, some (.int x)] st h = jv_ev call 53 23 [l0, l1, some (.int x)] (.int x :: st) h := je_iload_n D53_22 rfl rfl
theorem D53_23 : decode (jt_code 53) 23 = .ok (.ifCond .ge 12, 3) := by decide +kernel
theorem E53_23 {call : jv_F} {l0 l1 l2 : Option Value} {x : Int32} {st : List Value} {h : jv_H} : jv_ev call 53 23 [l0, l1, l2] (.int x :: st) h = if 0 ≤ x then jv_ev call 53 35 [l0, l1, l2] st h else jv_ev call 53 26 [l0, l1, l2] st h := je_ifc D53_23 (by decide) rfl rfl
theorem D53_26 : decode (jt_code 53) 26 = .ok (.aload_n 0, 1) := by decide +kernel
theorem E53_26 {call : jv_F} {l1 l2 : Option Value} {a : Nat} {st : List Value} {h : jv_H} : jv_ev call 53 26 [some (.ref a), l1, l2] st h = jv_ev call 53 27 [some (.ref a), l1, l2] (.ref a :: st) h := je_aload_n (r := some a) D53_26 rfl rfl
theorem D53_27 : decode (jt_code 53) 27 = .ok (.getfield 33, 3) := by decide +kernel
theorem E53_27 {call : jv_F} {l0 l1 l2 : Option Value}  {st : List Value} {m : Nat} {I : Nat → Int32} {A : Nat → Nat → Int32} {L : Nat → Nat → Int64} {rest : Nat → Option jv_C} {z : Nat × Nat} : jv_ev call 53 27 [l0, l1, l2] (.ref m :: st) (jm_H m I A L rest z) = jv_ev call 53 30 [l0, l1, l2] (.ref (m + 7) :: st) (jm_H m I A L rest z) := je_get D53_27 rfl (by decide) jm_g10
theorem D53_30 : decode (jt_code 53) 30 = .ok (.iload_n 1, 1) := by decide +kernel
theorem E53_30 {call : jv_F} {l0 l2 : Option Value} {x : Int32} {st : List Value} {h : jv_H} : jv_ev call 53 30 [l0, some (.int x), l2] st h = jv_ev call 53 31 [l0, some (.int x), l2] (.int x :: st) h := je_iload_n D53_30 rfl rfl
theorem D53_31 : decode (jt_code 53) 31 = .ok (.laload, 1) := by decide +kernel
theorem E53_31 {call : jv_F} {l0 l1 l2 : Option Value} {i : Nat} {st : List Value} {m : Nat} {I : Nat → Int32} {A : Nat → Nat → Int32} {L : Nat → Nat → Int64} {rest : Nat → Option jv_C} {z : Nat × Nat} (hi : i < 12) : jv_ev call 53 31 [l0, l1, l2] (.int (nI i) :: .ref (m + 7) :: st) (jm_H m I A L rest z) = jv_ev call 53 32 [l0, l1, l2] (.long (L 10 i) :: st) (jm_H m I A L rest z) := je_lald D53_31 rfl (jm_l10 hi)
theorem D53_32 : decode (jt_code 53) 32 = .ok (.goto 33, 3) := by decide +kernel
theorem E53_32 {call : jv_F} {l0 l1 l2 : Option Value}  {st : List Value} {h : jv_H} : jv_ev call 53 32 [l0, l1, l2] st h = jv_ev call 53 65 [l0, l1, l2] st h := je_goto D53_32 (by decide)
theorem D53_35 : decode (jt_code 53) 35 = .ok (.iload_n 2, 1) := by decide +kernel
theorem E53_35 {call : jv_F} {l0 l1 : Option Value} {x : Int32} {st : List Value} {h : jv_H} : jv_ev call 53 35 [l0, l1, some (.int x)] st h = jv_ev call 53 36 [l0, l1, some (.int x)] (.int x :: st) h := je_iload_n D53_35 rfl rfl
theorem D53_36 : decode (jt_code 53) 36 = .ok (.sipush 128, 3) := by decide +kernel
theorem E53_36 {call : jv_F} {l0 l1 l2 : Option Value}  {st : List Value} {h : jv_H} : jv_ev call 53 36 [l0, l1, l2] st h = jv_ev call 53 39 [l0, l1, l2] (.int (nI 128) :: st) h := je_sipush D53_36 rfl (by decide)
theorem D53_39 : decode (jt_code 53) 39 = .ok (.if_icmp .ne 13, 3) := by decide +kernel
theorem E53_39 {call : jv_F} {l0 l1 l2 : Option Value} {x y : Int32} {st : List Value} {h : jv_H} : jv_ev call 53 39 [l0, l1, l2] (.int y :: .int x :: st) h = if ¬ x = y then jv_ev call 53 52 [l0, l1, l2] st h else jv_ev call 53 42 [l0, l1, l2] st h := je_icmp D53_39 (by decide) rfl rfl
theorem D53_42 : decode (jt_code 53) 42 = .ok (.aload_n 0, 1) := by decide +kernel
theorem E53_42 {call : jv_F} {l1 l2 : Option Value} {a : Nat} {st : List Value} {h : jv_H} : jv_ev call 53 42 [some (.ref a), l1, l2] st h = jv_ev call 53 43 [some (.ref a), l1, l2] (.ref a :: st) h := je_aload_n (r := some a) D53_42 rfl rfl
theorem D53_43 : decode (jt_code 53) 43 = .ok (.getfield 30, 3) := by decide +kernel
theorem E53_43 {call : jv_F} {l0 l1 l2 : Option Value}  {st : List Value} {m : Nat} {I : Nat → Int32} {A : Nat → Nat → Int32} {L : Nat → Nat → Int64} {rest : Nat → Option jv_C} {z : Nat × Nat} : jv_ev call 53 43 [l0, l1, l2] (.ref m :: st) (jm_H m I A L rest z) = jv_ev call 53 46 [l0, l1, l2] (.ref (m + 6) :: st) (jm_H m I A L rest z) := je_get D53_43 rfl (by decide) jm_g9
theorem D53_46 : decode (jt_code 53) 46 = .ok (.iload_n 1, 1) := by decide +kernel
theorem E53_46 {call : jv_F} {l0 l2 : Option Value} {x : Int32} {st : List Value} {h : jv_H} : jv_ev call 53 46 [l0, some (.int x), l2] st h = jv_ev call 53 47 [l0, some (.int x), l2] (.int x :: st) h := je_iload_n D53_46 rfl rfl
theorem D53_47 : decode (jt_code 53) 47 = .ok (.iaload, 1) := by decide +kernel
theorem E53_47 {call : jv_F} {l0 l1 l2 : Option Value} {i : Nat} {st : List Value} {m : Nat} {I : Nat → Int32} {A : Nat → Nat → Int32} {L : Nat → Nat → Int64} {rest : Nat → Option jv_C} {z : Nat × Nat} (hi : i < 12) : jv_ev call 53 47 [l0, l1, l2] (.int (nI i) :: .ref (m + 6) :: st) (jm_H m I A L rest z) = jv_ev call 53 48 [l0, l1, l2] (.int (A 9 i) :: st) (jm_H m I A L rest z) := je_iald D53_47 rfl (jm_l9 hi)
theorem D53_48 : decode (jt_code 53) 48 = .ok (.i2l, 1) := by decide +kernel
theorem E53_48 {call : jv_F} {l0 l1 l2 : Option Value} {x : Int32} {st : List Value} {h : jv_H} : jv_ev call 53 48 [l0, l1, l2] (.int x :: st) h = jv_ev call 53 49 [l0, l1, l2] (.long x.toInt64 :: st) h := je_i2l D53_48 rfl
theorem D53_49 : decode (jt_code 53) 49 = .ok (.goto 16, 3) := by decide +kernel
theorem E53_49 {call : jv_F} {l0 l1 l2 : Option Value}  {st : List Value} {h : jv_H} : jv_ev call 53 49 [l0, l1, l2] st h = jv_ev call 53 65 [l0, l1, l2] st h := je_goto D53_49 (by decide)
theorem D53_52 : decode (jt_code 53) 52 = .ok (.aload_n 0, 1) := by decide +kernel
theorem E53_52 {call : jv_F} {l1 l2 : Option Value} {a : Nat} {st : List Value} {h : jv_H} : jv_ev call 53 52 [some (.ref a), l1, l2] st h = jv_ev call 53 53 [some (.ref a), l1, l2] (.ref a :: st) h := je_aload_n (r := some a) D53_52 rfl rfl
theorem D53_53 : decode (jt_code 53) 53 = .ok (.getfield 36, 3) := by decide +kernel
theorem E53_53 {call : jv_F} {l0 l1 l2 : Option Value}  {st : List Value} {m : Nat} {I : Nat → Int32} {A : Nat → Nat → Int32} {L : Nat → Nat → Int64} {rest : Nat → Option jv_C} {z : Nat × Nat} : jv_ev call 53 53 [l0, l1, l2] (.ref m :: st) (jm_H m I A L rest z) = jv_ev call 53 56 [l0, l1, l2] (.ref (m + 8) :: st) (jm_H m I A L rest z) := je_get D53_53 rfl (by decide) jm_g11
theorem D53_56 : decode (jt_code 53) 56 = .ok (.sipush 128, 3) := by decide +kernel
theorem E53_56 {call : jv_F} {l0 l1 l2 : Option Value}  {st : List Value} {h : jv_H} : jv_ev call 53 56 [l0, l1, l2] st h = jv_ev call 53 59 [l0, l1, l2] (.int (nI 128) :: st) h := je_sipush D53_56 rfl (by decide)
theorem D53_59 : decode (jt_code 53) 59 = .ok (.iload_n 1, 1) := by decide +kernel
theorem E53_59 {call : jv_F} {l0 l2 : Option Value} {x : Int32} {st : List Value} {h : jv_H} : jv_ev call 53 59 [l0, some (.int x), l2] st h = jv_ev call 53 60 [l0, some (.int x), l2] (.int x :: st) h := je_iload_n D53_59 rfl rfl
theorem D53_60 : decode (jt_code 53) 60 = .ok (.imul, 1) := by decide +kernel
theorem E53_60 {call : jv_F} {l0 l1 l2 : Option Value} {x y : Int32} {st : List Value} {h : jv_H} : jv_ev call 53 60 [l0, l1, l2] (.int y :: .int x :: st) h = jv_ev call 53 61 [l0, l1, l2] (.int (x * y) :: st) h := je_b2 (f := fun x y => x * y) D53_60 rfl (fun _ => rfl)
theorem D53_61 : decode (jt_code 53) 61 = .ok (.iload_n 2, 1) := by decide +kernel
theorem E53_61 {call : jv_F} {l0 l1 : Option Value} {x : Int32} {st : List Value} {h : jv_H} : jv_ev call 53 61 [l0, l1, some (.int x)] st h = jv_ev call 53 62 [l0, l1, some (.int x)] (.int x :: st) h := je_iload_n D53_61 rfl rfl
theorem D53_62 : decode (jt_code 53) 62 = .ok (.iadd, 1) := by decide +kernel
theorem E53_62 {call : jv_F} {l0 l1 l2 : Option Value} {x y : Int32} {st : List Value} {h : jv_H} : jv_ev call 53 62 [l0, l1, l2] (.int y :: .int x :: st) h = jv_ev call 53 63 [l0, l1, l2] (.int (x + y) :: st) h := je_b2 (f := fun x y => x + y) D53_62 rfl (fun _ => rfl)
theorem D53_63 : decode (jt_code 53) 63 = .ok (.iaload, 1) := by decide +kernel
theorem E53_63 {call : jv_F} {l0 l1 l2 : Option Value} {i : Nat} {st : List Value} {m : Nat} {I : Nat → Int32} {A : Nat → Nat → Int32} {L : Nat → Nat → Int64} {rest : Nat → Option jv_C} {z : Nat × Nat} (hi : i < 1536) : jv_ev call 53 63 [l0, l1, l2] (.int (nI i) :: .ref (m + 8) :: st) (jm_H m I A L rest z) = jv_ev call 53 64 [l0, l1, l2] (.int (A 11 i) :: st) (jm_H m I A L rest z) := je_iald D53_63 rfl (jm_l11 hi)
theorem D53_64 : decode (jt_code 53) 64 = .ok (.i2l, 1) := by decide +kernel
theorem E53_64 {call : jv_F} {l0 l1 l2 : Option Value} {x : Int32} {st : List Value} {h : jv_H} : jv_ev call 53 64 [l0, l1, l2] (.int x :: st) h = jv_ev call 53 65 [l0, l1, l2] (.long x.toInt64 :: st) h := je_i2l D53_64 rfl
theorem D53_65 : decode (jt_code 53) 65 = .ok (.lreturn, 1) := by decide +kernel
theorem E53_65 {call : jv_F} {l0 l1 l2 : Option Value} {v : Int64} {h : jv_H} : jv_ev call 53 65 [l0, l1, l2] [.long v] h = some (some (.long v), h) := je_lret D53_65 rfl
/-! method 54: DrumMachineModel.word -/
theorem N54 {d : Nat} {b : Nat} {a0 : Int32} {a1 : Int32} {h : jv_H} : jv_run (d + 1) 54 [.ref b, .int a0, .int a1] h = jv_ev (jv_run d) 54 0 [some (.ref b), some (.int a0), some (.int a1)] [] h := jv_run_eq (Nat.le_of_ble_eq_true rfl) rfl
theorem D54_0 : decode (jt_code 54) 0 = .ok (.aload_n 0, 1) := by decide +kernel
theorem E54_0 {call : jv_F} {l1 l2 : Option Value} {a : Nat} {st : List Value} {h : jv_H} : jv_ev call 54 0 [some (.ref a), l1, l2] st h = jv_ev call 54 1 [some (.ref a), l1, l2] (.ref a :: st) h := je_aload_n (r := some a) D54_0 rfl rfl
theorem D54_1 : decode (jt_code 54) 1 = .ok (.iload_n 1, 1) := by decide +kernel
theorem E54_1 {call : jv_F} {l0 l2 : Option Value} {x : Int32} {st : List Value} {h : jv_H} : jv_ev call 54 1 [l0, some (.int x), l2] st h = jv_ev call 54 2 [l0, some (.int x), l2] (.int x :: st) h := je_iload_n D54_1 rfl rfl
theorem D54_2 : decode (jt_code 54) 2 = .ok (.invokevirtual 297, 3) := by decide +kernel
theorem E54_2 {call : jv_F} {l0 l1 l2 : Option Value} {v0 : Value}  {st : List Value} {m : Nat} {I : Nat → Int32} {A : Nat → Nat → Int32} {L : Nat → Nat → Int64} {rest : Nat → Option jv_C} {z : Nat × Nat} (hw : jv_wide st = true) (hc : (call 48 [.ref m, v0] (jm_H m I A L rest z)).isSome = true) : jv_ev call 54 2 [l0, l1, l2] (v0 :: .ref m :: st) (jm_H m I A L rest z) = jv_ev call 54 5 [l0, l1, l2] ((((call 48 [.ref m, v0] (jm_H m I A L rest z)).getD (none, (jm_H m I A L rest z))).1).toList ++ st) ((call 48 [.ref m, v0] (jm_H m I A L rest z)).getD (none, (jm_H m I A L rest z))).2 := by
  obtain ⟨⟨r, h'⟩, hv⟩ := Option.isSome_iff_exists.mp hc
  rw [hv]
  exact je_virt (y := 48) (as := [v0]) D54_2 rfl (by decide) (by decide) rfl jm_cl hw hv
theorem D54_5 : decode (jt_code 54) 5 = .ok (.ifCond .eq 34, 3) := by decide +kernel
theorem E54_5 {call : jv_F} {l0 l1 l2 : Option Value} {x : Int32} {st : List Value} {h : jv_H} : jv_ev call 54 5 [l0, l1, l2] (.int x :: st) h = if x = 0 then jv_ev call 54 39 [l0, l1, l2] st h else jv_ev call 54 8 [l0, l1, l2] st h := je_ifc D54_5 (by decide) rfl rfl
theorem D54_8 : decode (jt_code 54) 8 = .ok (.aload_n 0, 1) := by decide +kernel
theorem E54_8 {call : jv_F} {l1 l2 : Option Value} {a : Nat} {st : List Value} {h : jv_H} : jv_ev call 54 8 [some (.ref a), l1, l2] st h = jv_ev call 54 9 [some (.ref a), l1, l2] (.ref a :: st) h := je_aload_n (r := some a) D54_8 rfl rfl
theorem D54_9 : decode (jt_code 54) 9 = .ok (.getfield 27, 3) := by decide +kernel
theorem E54_9 {call : jv_F} {l0 l1 l2 : Option Value}  {st : List Value} {m : Nat} {I : Nat → Int32} {A : Nat → Nat → Int32} {L : Nat → Nat → Int64} {rest : Nat → Option jv_C} {z : Nat × Nat} : jv_ev call 54 9 [l0, l1, l2] (.ref m :: st) (jm_H m I A L rest z) = jv_ev call 54 12 [l0, l1, l2] (.ref (m + 5) :: st) (jm_H m I A L rest z) := je_get D54_9 rfl (by decide) jm_g8
theorem D54_12 : decode (jt_code 54) 12 = .ok (.iload_n 1, 1) := by decide +kernel
theorem E54_12 {call : jv_F} {l0 l2 : Option Value} {x : Int32} {st : List Value} {h : jv_H} : jv_ev call 54 12 [l0, some (.int x), l2] st h = jv_ev call 54 13 [l0, some (.int x), l2] (.int x :: st) h := je_iload_n D54_12 rfl rfl
theorem D54_13 : decode (jt_code 54) 13 = .ok (.iaload, 1) := by decide +kernel
theorem E54_13 {call : jv_F} {l0 l1 l2 : Option Value} {i : Nat} {st : List Value} {m : Nat} {I : Nat → Int32} {A : Nat → Nat → Int32} {L : Nat → Nat → Int64} {rest : Nat → Option jv_C} {z : Nat × Nat} (hi : i < 12) : jv_ev call 54 13 [l0, l1, l2] (.int (nI i) :: .ref (m + 5) :: st) (jm_H m I A L rest z) = jv_ev call 54 14 [l0, l1, l2] (.int (A 8 i) :: st) (jm_H m I A L rest z) := je_iald D54_13 rfl (jm_l8 hi)
theorem D54_14 : decode (jt_code 54) 14 = .ok (.ifCond .ne 25, 3) := by decide +kernel
theorem E54_14 {call : jv_F} {l0 l1 l2 : Option Value} {x : Int32} {st : List Value} {h : jv_H} : jv_ev call 54 14 [l0, l1, l2] (.int x :: st) h = if ¬ x = 0 then jv_ev call 54 39 [l0, l1, l2] st h else jv_ev call 54 17 [l0, l1, l2] st h := je_ifc D54_14 (by decide) rfl rfl
theorem D54_17 : decode (jt_code 54) 17 = .ok (.iload_n 2, 1) := by decide +kernel
theorem E54_17 {call : jv_F} {l0 l1 : Option Value} {x : Int32} {st : List Value} {h : jv_H} : jv_ev call 54 17 [l0, l1, some (.int x)] st h = jv_ev call 54 18 [l0, l1, some (.int x)] (.int x :: st) h := je_iload_n D54_17 rfl rfl
theorem D54_18 : decode (jt_code 54) 18 = .ok (.invokestatic 129, 3) := by decide +kernel
theorem E54_18 {call : jv_F} {l0 l1 l2 : Option Value} {v0 : Value}  {st : List Value} {h : jv_H} (hw : jv_wide st = true) (hc : (call 14 [v0] h).isSome = true) : jv_ev call 54 18 [l0, l1, l2] (v0 :: st) h = jv_ev call 54 21 [l0, l1, l2] ((((call 14 [v0] h).getD (none, h)).1).toList ++ st) ((call 14 [v0] h).getD (none, h)).2 := by
  obtain ⟨⟨r, h'⟩, hv⟩ := Option.isSome_iff_exists.mp hc
  rw [hv]
  exact je_stat (y := 14) (as := [v0]) D54_18 rfl (by decide) (by decide) rfl hw hv
theorem D54_21 : decode (jt_code 54) 21 = .ok (.ifCond .eq 18, 3) := by decide +kernel
theorem E54_21 {call : jv_F} {l0 l1 l2 : Option Value} {x : Int32} {st : List Value} {h : jv_H} : jv_ev call 54 21 [l0, l1, l2] (.int x :: st) h = if x = 0 then jv_ev call 54 39 [l0, l1, l2] st h else jv_ev call 54 24 [l0, l1, l2] st h := je_ifc D54_21 (by decide) rfl rfl
theorem D54_24 : decode (jt_code 54) 24 = .ok (.aload_n 0, 1) := by decide +kernel
theorem E54_24 {call : jv_F} {l1 l2 : Option Value} {a : Nat} {st : List Value} {h : jv_H} : jv_ev call 54 24 [some (.ref a), l1, l2] st h = jv_ev call 54 25 [some (.ref a), l1, l2] (.ref a :: st) h := je_aload_n (r := some a) D54_24 rfl rfl
theorem D54_25 : decode (jt_code 54) 25 = .ok (.getfield 39, 3) := by decide +kernel
theorem E54_25 {call : jv_F} {l0 l1 l2 : Option Value}  {st : List Value} {m : Nat} {I : Nat → Int32} {A : Nat → Nat → Int32} {L : Nat → Nat → Int64} {rest : Nat → Option jv_C} {z : Nat × Nat} : jv_ev call 54 25 [l0, l1, l2] (.ref m :: st) (jm_H m I A L rest z) = jv_ev call 54 28 [l0, l1, l2] (.ref (m + 9) :: st) (jm_H m I A L rest z) := je_get D54_25 rfl (by decide) jm_g12
theorem D54_28 : decode (jt_code 54) 28 = .ok (.sipush 1024, 3) := by decide +kernel
theorem E54_28 {call : jv_F} {l0 l1 l2 : Option Value}  {st : List Value} {h : jv_H} : jv_ev call 54 28 [l0, l1, l2] st h = jv_ev call 54 31 [l0, l1, l2] (.int (nI 1024) :: st) h := je_sipush D54_28 rfl (by decide)
theorem D54_31 : decode (jt_code 54) 31 = .ok (.iload_n 1, 1) := by decide +kernel
theorem E54_31 {call : jv_F} {l0 l2 : Option Value} {x : Int32} {st : List Value} {h : jv_H} : jv_ev call 54 31 [l0, some (.int x), l2] st h = jv_ev call 54 32 [l0, some (.int x), l2] (.int x :: st) h := je_iload_n D54_31 rfl rfl
theorem D54_32 : decode (jt_code 54) 32 = .ok (.imul, 1) := by decide +kernel
theorem E54_32 {call : jv_F} {l0 l1 l2 : Option Value} {x y : Int32} {st : List Value} {h : jv_H} : jv_ev call 54 32 [l0, l1, l2] (.int y :: .int x :: st) h = jv_ev call 54 33 [l0, l1, l2] (.int (x * y) :: st) h := je_b2 (f := fun x y => x * y) D54_32 rfl (fun _ => rfl)
theorem D54_33 : decode (jt_code 54) 33 = .ok (.iload_n 2, 1) := by decide +kernel
theorem E54_33 {call : jv_F} {l0 l1 : Option Value} {x : Int32} {st : List Value} {h : jv_H} : jv_ev call 54 33 [l0, l1, some (.int x)] st h = jv_ev call 54 34 [l0, l1, some (.int x)] (.int x :: st) h := je_iload_n D54_33 rfl rfl
theorem D54_34 : decode (jt_code 54) 34 = .ok (.iadd, 1) := by decide +kernel
theorem E54_34 {call : jv_F} {l0 l1 l2 : Option Value} {x y : Int32} {st : List Value} {h : jv_H} : jv_ev call 54 34 [l0, l1, l2] (.int y :: .int x :: st) h = jv_ev call 54 35 [l0, l1, l2] (.int (x + y) :: st) h := je_b2 (f := fun x y => x + y) D54_34 rfl (fun _ => rfl)
theorem D54_35 : decode (jt_code 54) 35 = .ok (.laload, 1) := by decide +kernel
theorem E54_35 {call : jv_F} {l0 l1 l2 : Option Value} {i : Nat} {st : List Value} {m : Nat} {I : Nat → Int32} {A : Nat → Nat → Int32} {L : Nat → Nat → Int64} {rest : Nat → Option jv_C} {z : Nat × Nat} (hi : i < 12288) : jv_ev call 54 35 [l0, l1, l2] (.int (nI i) :: .ref (m + 9) :: st) (jm_H m I A L rest z) = jv_ev call 54 36 [l0, l1, l2] (.long (L 12 i) :: st) (jm_H m I A L rest z) := je_lald D54_35 rfl (jm_l12 hi)
theorem D54_36 : decode (jt_code 54) 36 = .ok (.goto 4, 3) := by decide +kernel
theorem E54_36 {call : jv_F} {l0 l1 l2 : Option Value}  {st : List Value} {h : jv_H} : jv_ev call 54 36 [l0, l1, l2] st h = jv_ev call 54 40 [l0, l1, l2] st h := je_goto D54_36 (by decide)
theorem D54_39 : decode (jt_code 54) 39 = .ok (.lconst 0, 1) := by decide +kernel
theorem E54_39 {call : jv_F} {l0 l1 l2 : Option Value}  {st : List Value} {h : jv_H} : jv_ev call 54 39 [l0, l1, l2] st h = jv_ev call 54 40 [l0, l1, l2] (.long 0 :: st) h := je_lconst D54_39 rfl (by decide)
theorem D54_40 : decode (jt_code 54) 40 = .ok (.lreturn, 1) := by decide +kernel
theorem E54_40 {call : jv_F} {l0 l1 l2 : Option Value} {v : Int64} {h : jv_H} : jv_ev call 54 40 [l0, l1, l2] [.long v] h = some (some (.long v), h) := je_lret D54_40 rfl
/-! method 55: DrumMachineModel.clock -/
theorem N55 {d : Nat} {b : Nat} {h : jv_H} : jv_run (d + 1) 55 [.ref b] h = jv_ev (jv_run d) 55 0 [some (.ref b)] [] h := jv_run_eq (Nat.le_of_ble_eq_true rfl) rfl
theorem D55_0 : decode (jt_code 55) 0 = .ok (.aload_n 0, 1) := by decide +kernel
theorem E55_0 {call : jv_F} {a : Nat} {st : List Value} {h : jv_H} : jv_ev call 55 0 [some (.ref a)] st h = jv_ev call 55 1 [some (.ref a)] (.ref a :: st) h := je_aload_n (r := some a) D55_0 rfl rfl
theorem D55_1 : decode (jt_code 55) 1 = .ok (.getfield 148, 3) := by decide +kernel
theorem E55_1 {call : jv_F} {l0 : Option Value}  {st : List Value} {m : Nat} {I : Nat → Int32} {A : Nat → Nat → Int32} {L : Nat → Nat → Int64} {rest : Nat → Option jv_C} {z : Nat × Nat} : jv_ev call 55 1 [l0] (.ref m :: st) (jm_H m I A L rest z) = jv_ev call 55 4 [l0] (.int (I 36) :: st) (jm_H m I A L rest z) := je_get D55_1 rfl (by decide) jm_g36
theorem D55_4 : decode (jt_code 55) 4 = .ok (.ireturn, 1) := by decide +kernel
theorem E55_4 {call : jv_F} {l0 : Option Value} {v : Int32} {h : jv_H} : jv_ev call 55 4 [l0] [.int v] h = some (some (.int v), h) := je_iret (ty := .int) D55_4 rfl rfl rfl
/-! method 58: DrumMachineModel.sector -/
theorem N58 {d : Nat} {b : Nat} {a0 : Int32} {h : jv_H} : jv_run (d + 1) 58 [.ref b, .int a0] h = jv_ev (jv_run d) 58 0 [some (.ref b), some (.int a0)] [] h := jv_run_eq (Nat.le_of_ble_eq_true rfl) rfl
theorem D58_0 : decode (jt_code 58) 0 = .ok (.iload_n 1, 1) := by decide +kernel
theorem E58_0 {call : jv_F} {l0 : Option Value} {x : Int32} {st : List Value} {h : jv_H} : jv_ev call 58 0 [l0, some (.int x)] st h = jv_ev call 58 1 [l0, some (.int x)] (.int x :: st) h := je_iload_n D58_0 rfl rfl
theorem D58_1 : decode (jt_code 58) 1 = .ok (.ifCond .lt 18, 3) := by decide +kernel
theorem E58_1 {call : jv_F} {l0 l1 : Option Value} {x : Int32} {st : List Value} {h : jv_H} : jv_ev call 58 1 [l0, l1] (.int x :: st) h = if x < 0 then jv_ev call 58 19 [l0, l1] st h else jv_ev call 58 4 [l0, l1] st h := je_ifc D58_1 (by decide) rfl rfl
theorem D58_4 : decode (jt_code 58) 4 = .ok (.iload_n 1, 1) := by decide +kernel
theorem E58_4 {call : jv_F} {l0 : Option Value} {x : Int32} {st : List Value} {h : jv_H} : jv_ev call 58 4 [l0, some (.int x)] st h = jv_ev call 58 5 [l0, some (.int x)] (.int x :: st) h := je_iload_n D58_4 rfl rfl
theorem D58_5 : decode (jt_code 58) 5 = .ok (.bipush 64, 2) := by decide +kernel
theorem E58_5 {call : jv_F} {l0 l1 : Option Value}  {st : List Value} {h : jv_H} : jv_ev call 58 5 [l0, l1] st h = jv_ev call 58 7 [l0, l1] (.int (nI 64) :: st) h := je_bipush D58_5 rfl (by decide)
theorem D58_7 : decode (jt_code 58) 7 = .ok (.if_icmp .ge 12, 3) := by decide +kernel
theorem E58_7 {call : jv_F} {l0 l1 : Option Value} {x y : Int32} {st : List Value} {h : jv_H} : jv_ev call 58 7 [l0, l1] (.int y :: .int x :: st) h = if y ≤ x then jv_ev call 58 19 [l0, l1] st h else jv_ev call 58 10 [l0, l1] st h := je_icmp D58_7 (by decide) rfl rfl
theorem D58_10 : decode (jt_code 58) 10 = .ok (.aload_n 0, 1) := by decide +kernel
theorem E58_10 {call : jv_F} {l1 : Option Value} {a : Nat} {st : List Value} {h : jv_H} : jv_ev call 58 10 [some (.ref a), l1] st h = jv_ev call 58 11 [some (.ref a), l1] (.ref a :: st) h := je_aload_n (r := some a) D58_10 rfl rfl
theorem D58_11 : decode (jt_code 58) 11 = .ok (.getfield 85, 3) := by decide +kernel
theorem E58_11 {call : jv_F} {l0 l1 : Option Value}  {st : List Value} {m : Nat} {I : Nat → Int32} {A : Nat → Nat → Int32} {L : Nat → Nat → Int64} {rest : Nat → Option jv_C} {z : Nat × Nat} : jv_ev call 58 11 [l0, l1] (.ref m :: st) (jm_H m I A L rest z) = jv_ev call 58 14 [l0, l1] (.ref (m + 24) :: st) (jm_H m I A L rest z) := je_get D58_11 rfl (by decide) jm_g28
theorem D58_14 : decode (jt_code 58) 14 = .ok (.iload_n 1, 1) := by decide +kernel
theorem E58_14 {call : jv_F} {l0 : Option Value} {x : Int32} {st : List Value} {h : jv_H} : jv_ev call 58 14 [l0, some (.int x)] st h = jv_ev call 58 15 [l0, some (.int x)] (.int x :: st) h := je_iload_n D58_14 rfl rfl
theorem D58_15 : decode (jt_code 58) 15 = .ok (.iaload, 1) := by decide +kernel
theorem E58_15 {call : jv_F} {l0 l1 : Option Value} {i : Nat} {st : List Value} {m : Nat} {I : Nat → Int32} {A : Nat → Nat → Int32} {L : Nat → Nat → Int64} {rest : Nat → Option jv_C} {z : Nat × Nat} (hi : i < 64) : jv_ev call 58 15 [l0, l1] (.int (nI i) :: .ref (m + 24) :: st) (jm_H m I A L rest z) = jv_ev call 58 16 [l0, l1] (.int (A 28 i) :: st) (jm_H m I A L rest z) := je_iald D58_15 rfl (jm_l28 hi)
theorem D58_16 : decode (jt_code 58) 16 = .ok (.ifCond .ge 5, 3) := by decide +kernel
theorem E58_16 {call : jv_F} {l0 l1 : Option Value} {x : Int32} {st : List Value} {h : jv_H} : jv_ev call 58 16 [l0, l1] (.int x :: st) h = if 0 ≤ x then jv_ev call 58 21 [l0, l1] st h else jv_ev call 58 19 [l0, l1] st h := je_ifc D58_16 (by decide) rfl rfl
theorem D58_19 : decode (jt_code 58) 19 = .ok (.iconst (-1), 1) := by decide +kernel
theorem E58_19 {call : jv_F} {l0 l1 : Option Value}  {st : List Value} {h : jv_H} : jv_ev call 58 19 [l0, l1] st h = jv_ev call 58 20 [l0, l1] (.int (-1) :: st) h := je_iconst D58_19 rfl (by decide)
theorem D58_20 : decode (jt_code 58) 20 = .ok (.ireturn, 1) := by decide +kernel
theorem E58_20 {call : jv_F} {l0 l1 : Option Value} {v : Int32} {h : jv_H} : jv_ev call 58 20 [l0, l1] [.int v] h = some (some (.int v), h) := je_iret (ty := .int) D58_20 rfl rfl rfl
theorem D58_21 : decode (jt_code 58) 21 = .ok (.sipush 1000, 3) := by decide +kernel
theorem E58_21 {call : jv_F} {l0 l1 : Option Value}  {st : List Value} {h : jv_H} : jv_ev call 58 21 [l0, l1] st h = jv_ev call 58 24 [l0, l1] (.int (nI 1000) :: st) h := je_sipush D58_21 rfl (by decide)
theorem D58_24 : decode (jt_code 58) 24 = .ok (.aload_n 0, 1) := by decide +kernel
theorem E58_24 {call : jv_F} {l1 : Option Value} {a : Nat} {st : List Value} {h : jv_H} : jv_ev call 58 24 [some (.ref a), l1] st h = jv_ev call 58 25 [some (.ref a), l1] (.ref a :: st) h := je_aload_n (r := some a) D58_24 rfl rfl
theorem D58_25 : decode (jt_code 58) 25 = .ok (.getfield 85, 3) := by decide +kernel
theorem E58_25 {call : jv_F} {l0 l1 : Option Value}  {st : List Value} {m : Nat} {I : Nat → Int32} {A : Nat → Nat → Int32} {L : Nat → Nat → Int64} {rest : Nat → Option jv_C} {z : Nat × Nat} : jv_ev call 58 25 [l0, l1] (.ref m :: st) (jm_H m I A L rest z) = jv_ev call 58 28 [l0, l1] (.ref (m + 24) :: st) (jm_H m I A L rest z) := je_get D58_25 rfl (by decide) jm_g28
theorem D58_28 : decode (jt_code 58) 28 = .ok (.iload_n 1, 1) := by decide +kernel
theorem E58_28 {call : jv_F} {l0 : Option Value} {x : Int32} {st : List Value} {h : jv_H} : jv_ev call 58 28 [l0, some (.int x)] st h = jv_ev call 58 29 [l0, some (.int x)] (.int x :: st) h := je_iload_n D58_28 rfl rfl
theorem D58_29 : decode (jt_code 58) 29 = .ok (.iaload, 1) := by decide +kernel
theorem E58_29 {call : jv_F} {l0 l1 : Option Value} {i : Nat} {st : List Value} {m : Nat} {I : Nat → Int32} {A : Nat → Nat → Int32} {L : Nat → Nat → Int64} {rest : Nat → Option jv_C} {z : Nat × Nat} (hi : i < 64) : jv_ev call 58 29 [l0, l1] (.int (nI i) :: .ref (m + 24) :: st) (jm_H m I A L rest z) = jv_ev call 58 30 [l0, l1] (.int (A 28 i) :: st) (jm_H m I A L rest z) := je_iald D58_29 rfl (jm_l28 hi)
theorem D58_30 : decode (jt_code 58) 30 = .ok (.bipush 64, 2) := by decide +kernel
theorem E58_30 {call : jv_F} {l0 l1 : Option Value}  {st : List Value} {h : jv_H} : jv_ev call 58 30 [l0, l1] st h = jv_ev call 58 32 [l0, l1] (.int (nI 64) :: st) h := je_bipush D58_30 rfl (by decide)
theorem D58_32 : decode (jt_code 58) 32 = .ok (.idiv, 1) := by decide +kernel
theorem E58_32 {call : jv_F} {l0 l1 : Option Value} {x y : Int32} {st : List Value} {h : jv_H} (hy : ¬ y = 0) : jv_ev call 58 32 [l0, l1] (.int y :: .int x :: st) h = jv_ev call 58 33 [l0, l1] (.int (x / y) :: st) h := je_idiv D58_32 rfl hy
theorem D58_33 : decode (jt_code 58) 33 = .ok (.imul, 1) := by decide +kernel
theorem E58_33 {call : jv_F} {l0 l1 : Option Value} {x y : Int32} {st : List Value} {h : jv_H} : jv_ev call 58 33 [l0, l1] (.int y :: .int x :: st) h = jv_ev call 58 34 [l0, l1] (.int (x * y) :: st) h := je_b2 (f := fun x y => x * y) D58_33 rfl (fun _ => rfl)
theorem D58_34 : decode (jt_code 58) 34 = .ok (.aload_n 0, 1) := by decide +kernel
theorem E58_34 {call : jv_F} {l1 : Option Value} {a : Nat} {st : List Value} {h : jv_H} : jv_ev call 58 34 [some (.ref a), l1] st h = jv_ev call 58 35 [some (.ref a), l1] (.ref a :: st) h := je_aload_n (r := some a) D58_34 rfl rfl
theorem D58_35 : decode (jt_code 58) 35 = .ok (.getfield 85, 3) := by decide +kernel
theorem E58_35 {call : jv_F} {l0 l1 : Option Value}  {st : List Value} {m : Nat} {I : Nat → Int32} {A : Nat → Nat → Int32} {L : Nat → Nat → Int64} {rest : Nat → Option jv_C} {z : Nat × Nat} : jv_ev call 58 35 [l0, l1] (.ref m :: st) (jm_H m I A L rest z) = jv_ev call 58 38 [l0, l1] (.ref (m + 24) :: st) (jm_H m I A L rest z) := je_get D58_35 rfl (by decide) jm_g28
theorem D58_38 : decode (jt_code 58) 38 = .ok (.iload_n 1, 1) := by decide +kernel
theorem E58_38 {call : jv_F} {l0 : Option Value} {x : Int32} {st : List Value} {h : jv_H} : jv_ev call 58 38 [l0, some (.int x)] st h = jv_ev call 58 39 [l0, some (.int x)] (.int x :: st) h := je_iload_n D58_38 rfl rfl
theorem D58_39 : decode (jt_code 58) 39 = .ok (.iaload, 1) := by decide +kernel
theorem E58_39 {call : jv_F} {l0 l1 : Option Value} {i : Nat} {st : List Value} {m : Nat} {I : Nat → Int32} {A : Nat → Nat → Int32} {L : Nat → Nat → Int64} {rest : Nat → Option jv_C} {z : Nat × Nat} (hi : i < 64) : jv_ev call 58 39 [l0, l1] (.int (nI i) :: .ref (m + 24) :: st) (jm_H m I A L rest z) = jv_ev call 58 40 [l0, l1] (.int (A 28 i) :: st) (jm_H m I A L rest z) := je_iald D58_39 rfl (jm_l28 hi)
theorem D58_40 : decode (jt_code 58) 40 = .ok (.bipush 64, 2) := by decide +kernel
theorem E58_40 {call : jv_F} {l0 l1 : Option Value}  {st : List Value} {h : jv_H} : jv_ev call 58 40 [l0, l1] st h = jv_ev call 58 42 [l0, l1] (.int (nI 64) :: st) h := je_bipush D58_40 rfl (by decide)
theorem D58_42 : decode (jt_code 58) 42 = .ok (.irem, 1) := by decide +kernel
theorem E58_42 {call : jv_F} {l0 l1 : Option Value} {x y : Int32} {st : List Value} {h : jv_H} (hy : ¬ y = 0) : jv_ev call 58 42 [l0, l1] (.int y :: .int x :: st) h = jv_ev call 58 43 [l0, l1] (.int (x - x / y * y) :: st) h := je_irem D58_42 rfl hy
theorem D58_43 : decode (jt_code 58) 43 = .ok (.iadd, 1) := by decide +kernel
theorem E58_43 {call : jv_F} {l0 l1 : Option Value} {x y : Int32} {st : List Value} {h : jv_H} : jv_ev call 58 43 [l0, l1] (.int y :: .int x :: st) h = jv_ev call 58 44 [l0, l1] (.int (x + y) :: st) h := je_b2 (f := fun x y => x + y) D58_43 rfl (fun _ => rfl)
theorem D58_44 : decode (jt_code 58) 44 = .ok (.ireturn, 1) := by decide +kernel
theorem E58_44 {call : jv_F} {l0 l1 : Option Value} {v : Int32} {h : jv_H} : jv_ev call 58 44 [l0, l1] [.int v] h = some (some (.int v), h) := je_iret (ty := .int) D58_44 rfl rfl rfl
