/-! method 4: DrumMachineModel.words -/
theorem N4 {d : Nat} {b : Nat} {a0 : Int64} {a1 : Int64} {a2 : Int64} {a3 : Int64} {a4 : Int64} {h : jv_H} : jv_run (d + 1) 4 [.ref b, .long a0, .long a1, .long a2, .long a3, .long a4] h = jv_ev (jv_run d) 4 0 [some (.ref b), some (.long a0), none, some (.long a1), none, some (.long a2), none, some (.long a3), none, some (.long a4), none] [] h := jv_run_eq (Nat.le_of_ble_eq_true rfl) rfl
theorem D4_0 : decode (jt_code 4) 0 = .ok (.aload_n 0, 1) := by decide +kernel
theorem E4_0 {call : jv_F} {l1 l2 l3 l4 l5 l6 l7 l8 l9 l10 : Option Value} {a : Nat} {st : List Value} {h : jv_H} : jv_ev call 4 0 [some (.ref a), l1, l2, l3, l4, l5, l6, l7, l8, l9, l10] st h = jv_ev call 4 1 [some (.ref a), l1, l2, l3, l4, l5, l6, l7, l8, l9, l10] (.ref a :: st) h := je_aload_n (r := some a) D4_0 rfl rfl
theorem D4_1 : decode (jt_code 4) 1 = .ok (.getfield 100, 3) := by decide +kernel
theorem E4_1 {call : jv_F} {l0 l1 l2 l3 l4 l5 l6 l7 l8 l9 l10 : Option Value}  {st : List Value} {m : Nat} {I : Nat → Int32} {A : Nat → Nat → Int32} {L : Nat → Nat → Int64} {rest : Nat → Option jv_C} {z : Nat × Nat} : jv_ev call 4 1 [l0, l1, l2, l3, l4, l5, l6, l7, l8, l9, l10] (.ref m :: st) (jm_H m I A L rest z) = jv_ev call 4 4 [l0, l1, l2, l3, l4, l5, l6, l7, l8, l9, l10] (.int (I 2) :: st) (jm_H m I A L rest z) := je_get D4_1 rfl (by decide) jm_g2
theorem D4_4 : decode (jt_code 4) 4 = .ok (.iconst 5, 1) := by decide +kernel
theorem E4_4 {call : jv_F} {l0 l1 l2 l3 l4 l5 l6 l7 l8 l9 l10 : Option Value}  {st : List Value} {h : jv_H} : jv_ev call 4 4 [l0, l1, l2, l3, l4, l5, l6, l7, l8, l9, l10] st h = jv_ev call 4 5 [l0, l1, l2, l3, l4, l5, l6, l7, l8, l9, l10] (.int (nI 5) :: st) h := je_iconst D4_4 rfl (by decide)
theorem D4_5 : decode (jt_code 4) 5 = .ok (.iadd, 1) := by decide +kernel
theorem E4_5 {call : jv_F} {l0 l1 l2 l3 l4 l5 l6 l7 l8 l9 l10 : Option Value} {x y : Int32} {st : List Value} {h : jv_H} : jv_ev call 4 5 [l0, l1, l2, l3, l4, l5, l6, l7, l8, l9, l10] (.int y :: .int x :: st) h = jv_ev call 4 6 [l0, l1, l2, l3, l4, l5, l6, l7, l8, l9, l10] (.int (x + y) :: st) h := je_b2 (f := fun x y => x + y) D4_5 rfl (fun _ => rfl)
theorem D4_6 : decode (jt_code 4) 6 = .ok (.sipush 1000, 3) := by decide +kernel
theorem E4_6 {call : jv_F} {l0 l1 l2 l3 l4 l5 l6 l7 l8 l9 l10 : Option Value}  {st : List Value} {h : jv_H} : jv_ev call 4 6 [l0, l1, l2, l3, l4, l5, l6, l7, l8, l9, l10] st h = jv_ev call 4 9 [l0, l1, l2, l3, l4, l5, l6, l7, l8, l9, l10] (.int (nI 1000) :: st) h := je_sipush D4_6 rfl (by decide)
theorem D4_9 : decode (jt_code 4) 9 = .ok (.if_icmp .le 5, 3) := by decide +kernel
theorem E4_9 {call : jv_F} {l0 l1 l2 l3 l4 l5 l6 l7 l8 l9 l10 : Option Value} {x y : Int32} {st : List Value} {h : jv_H} : jv_ev call 4 9 [l0, l1, l2, l3, l4, l5, l6, l7, l8, l9, l10] (.int y :: .int x :: st) h = if x ≤ y then jv_ev call 4 14 [l0, l1, l2, l3, l4, l5, l6, l7, l8, l9, l10] st h else jv_ev call 4 12 [l0, l1, l2, l3, l4, l5, l6, l7, l8, l9, l10] st h := je_icmp D4_9 (by decide) rfl rfl
theorem D4_12 : decode (jt_code 4) 12 = .ok (.iconst (-1), 1) := by decide +kernel
theorem E4_12 {call : jv_F} {l0 l1 l2 l3 l4 l5 l6 l7 l8 l9 l10 : Option Value}  {st : List Value} {h : jv_H} : jv_ev call 4 12 [l0, l1, l2, l3, l4, l5, l6, l7, l8, l9, l10] st h = jv_ev call 4 13 [l0, l1, l2, l3, l4, l5, l6, l7, l8, l9, l10] (.int (-1) :: st) h := je_iconst D4_12 rfl (by decide)
theorem D4_13 : decode (jt_code 4) 13 = .ok (.ireturn, 1) := by decide +kernel
theorem E4_13 {call : jv_F} {l0 l1 l2 l3 l4 l5 l6 l7 l8 l9 l10 : Option Value} {v : Int32} {h : jv_H} : jv_ev call 4 13 [l0, l1, l2, l3, l4, l5, l6, l7, l8, l9, l10] [.int v] h = some (some (.int v), h) := je_iret (ty := .int) D4_13 rfl rfl rfl
theorem D4_14 : decode (jt_code 4) 14 = .ok (.aload_n 0, 1) := by decide +kernel
theorem E4_14 {call : jv_F} {l1 l2 l3 l4 l5 l6 l7 l8 l9 l10 : Option Value} {a : Nat} {st : List Value} {h : jv_H} : jv_ev call 4 14 [some (.ref a), l1, l2, l3, l4, l5, l6, l7, l8, l9, l10] st h = jv_ev call 4 15 [some (.ref a), l1, l2, l3, l4, l5, l6, l7, l8, l9, l10] (.ref a :: st) h := je_aload_n (r := some a) D4_14 rfl rfl
theorem D4_15 : decode (jt_code 4) 15 = .ok (.getfield 13, 3) := by decide +kernel
theorem E4_15 {call : jv_F} {l0 l1 l2 l3 l4 l5 l6 l7 l8 l9 l10 : Option Value}  {st : List Value} {m : Nat} {I : Nat → Int32} {A : Nat → Nat → Int32} {L : Nat → Nat → Int64} {rest : Nat → Option jv_C} {z : Nat × Nat} : jv_ev call 4 15 [l0, l1, l2, l3, l4, l5, l6, l7, l8, l9, l10] (.ref m :: st) (jm_H m I A L rest z) = jv_ev call 4 18 [l0, l1, l2, l3, l4, l5, l6, l7, l8, l9, l10] (.ref (m + 1) :: st) (jm_H m I A L rest z) := je_get D4_15 rfl (by decide) jm_g1
theorem D4_18 : decode (jt_code 4) 18 = .ok (.aload_n 0, 1) := by decide +kernel
theorem E4_18 {call : jv_F} {l1 l2 l3 l4 l5 l6 l7 l8 l9 l10 : Option Value} {a : Nat} {st : List Value} {h : jv_H} : jv_ev call 4 18 [some (.ref a), l1, l2, l3, l4, l5, l6, l7, l8, l9, l10] st h = jv_ev call 4 19 [some (.ref a), l1, l2, l3, l4, l5, l6, l7, l8, l9, l10] (.ref a :: st) h := je_aload_n (r := some a) D4_18 rfl rfl
theorem D4_19 : decode (jt_code 4) 19 = .ok (.getfield 100, 3) := by decide +kernel
theorem E4_19 {call : jv_F} {l0 l1 l2 l3 l4 l5 l6 l7 l8 l9 l10 : Option Value}  {st : List Value} {m : Nat} {I : Nat → Int32} {A : Nat → Nat → Int32} {L : Nat → Nat → Int64} {rest : Nat → Option jv_C} {z : Nat × Nat} : jv_ev call 4 19 [l0, l1, l2, l3, l4, l5, l6, l7, l8, l9, l10] (.ref m :: st) (jm_H m I A L rest z) = jv_ev call 4 22 [l0, l1, l2, l3, l4, l5, l6, l7, l8, l9, l10] (.int (I 2) :: st) (jm_H m I A L rest z) := je_get D4_19 rfl (by decide) jm_g2
theorem D4_22 : decode (jt_code 4) 22 = .ok (.lload_n 1, 1) := by decide +kernel
theorem E4_22 {call : jv_F} {l0 l2 l3 l4 l5 l6 l7 l8 l9 l10 : Option Value} {x : Int64} {st : List Value} {h : jv_H} : jv_ev call 4 22 [l0, some (.long x), l2, l3, l4, l5, l6, l7, l8, l9, l10] st h = jv_ev call 4 23 [l0, some (.long x), l2, l3, l4, l5, l6, l7, l8, l9, l10] (.long x :: st) h := je_lload_n D4_22 rfl rfl
theorem D4_23 : decode (jt_code 4) 23 = .ok (.invokestatic 103, 3) := by decide +kernel
theorem E4_23 {call : jv_F} {l0 l1 l2 l3 l4 l5 l6 l7 l8 l9 l10 : Option Value} {v0 : Value}  {st : List Value} {h : jv_H} (hw : jv_wide st = true) (hc : (call 1 [v0] h).isSome = true) : jv_ev call 4 23 [l0, l1, l2, l3, l4, l5, l6, l7, l8, l9, l10] (v0 :: st) h = jv_ev call 4 26 [l0, l1, l2, l3, l4, l5, l6, l7, l8, l9, l10] ((((call 1 [v0] h).getD (none, h)).1).toList ++ st) ((call 1 [v0] h).getD (none, h)).2 := by
  obtain ⟨⟨r, h'⟩, hv⟩ := Option.isSome_iff_exists.mp hc
  rw [hv]
  exact je_stat (y := 1) (as := [v0]) D4_23 rfl (by decide) (by decide) rfl hw hv
theorem D4_26 : decode (jt_code 4) 26 = .ok (.lastore, 1) := by decide +kernel
theorem E4_26 {call : jv_F} {l0 l1 l2 l3 l4 l5 l6 l7 l8 l9 l10 : Option Value} {i : Nat} {v : Int64} {st : List Value} {m : Nat} {I : Nat → Int32} {A : Nat → Nat → Int32} {L : Nat → Nat → Int64} {rest : Nat → Option jv_C} {z : Nat × Nat} (hi : i < 1000) : jv_ev call 4 26 [l0, l1, l2, l3, l4, l5, l6, l7, l8, l9, l10] (.long v :: .int (nI i) :: .ref (m + 1) :: st) (jm_H m I A L rest z) = jv_ev call 4 27 [l0, l1, l2, l3, l4, l5, l6, l7, l8, l9, l10] st (jm_H m I A (va_up L 1 (vp_updL (L 1) i v)) rest z) := je_last D4_26 rfl (jm_s1 hi)
theorem D4_27 : decode (jt_code 4) 27 = .ok (.aload_n 0, 1) := by decide +kernel
theorem E4_27 {call : jv_F} {l1 l2 l3 l4 l5 l6 l7 l8 l9 l10 : Option Value} {a : Nat} {st : List Value} {h : jv_H} : jv_ev call 4 27 [some (.ref a), l1, l2, l3, l4, l5, l6, l7, l8, l9, l10] st h = jv_ev call 4 28 [some (.ref a), l1, l2, l3, l4, l5, l6, l7, l8, l9, l10] (.ref a :: st) h := je_aload_n (r := some a) D4_27 rfl rfl
theorem D4_28 : decode (jt_code 4) 28 = .ok (.getfield 13, 3) := by decide +kernel
theorem E4_28 {call : jv_F} {l0 l1 l2 l3 l4 l5 l6 l7 l8 l9 l10 : Option Value}  {st : List Value} {m : Nat} {I : Nat → Int32} {A : Nat → Nat → Int32} {L : Nat → Nat → Int64} {rest : Nat → Option jv_C} {z : Nat × Nat} : jv_ev call 4 28 [l0, l1, l2, l3, l4, l5, l6, l7, l8, l9, l10] (.ref m :: st) (jm_H m I A L rest z) = jv_ev call 4 31 [l0, l1, l2, l3, l4, l5, l6, l7, l8, l9, l10] (.ref (m + 1) :: st) (jm_H m I A L rest z) := je_get D4_28 rfl (by decide) jm_g1
theorem D4_31 : decode (jt_code 4) 31 = .ok (.aload_n 0, 1) := by decide +kernel
theorem E4_31 {call : jv_F} {l1 l2 l3 l4 l5 l6 l7 l8 l9 l10 : Option Value} {a : Nat} {st : List Value} {h : jv_H} : jv_ev call 4 31 [some (.ref a), l1, l2, l3, l4, l5, l6, l7, l8, l9, l10] st h = jv_ev call 4 32 [some (.ref a), l1, l2, l3, l4, l5, l6, l7, l8, l9, l10] (.ref a :: st) h := je_aload_n (r := some a) D4_31 rfl rfl
theorem D4_32 : decode (jt_code 4) 32 = .ok (.getfield 100, 3) := by decide +kernel
theorem E4_32 {call : jv_F} {l0 l1 l2 l3 l4 l5 l6 l7 l8 l9 l10 : Option Value}  {st : List Value} {m : Nat} {I : Nat → Int32} {A : Nat → Nat → Int32} {L : Nat → Nat → Int64} {rest : Nat → Option jv_C} {z : Nat × Nat} : jv_ev call 4 32 [l0, l1, l2, l3, l4, l5, l6, l7, l8, l9, l10] (.ref m :: st) (jm_H m I A L rest z) = jv_ev call 4 35 [l0, l1, l2, l3, l4, l5, l6, l7, l8, l9, l10] (.int (I 2) :: st) (jm_H m I A L rest z) := je_get D4_32 rfl (by decide) jm_g2
theorem D4_35 : decode (jt_code 4) 35 = .ok (.iconst 1, 1) := by decide +kernel
theorem E4_35 {call : jv_F} {l0 l1 l2 l3 l4 l5 l6 l7 l8 l9 l10 : Option Value}  {st : List Value} {h : jv_H} : jv_ev call 4 35 [l0, l1, l2, l3, l4, l5, l6, l7, l8, l9, l10] st h = jv_ev call 4 36 [l0, l1, l2, l3, l4, l5, l6, l7, l8, l9, l10] (.int (nI 1) :: st) h := je_iconst D4_35 rfl (by decide)
theorem D4_36 : decode (jt_code 4) 36 = .ok (.iadd, 1) := by decide +kernel
theorem E4_36 {call : jv_F} {l0 l1 l2 l3 l4 l5 l6 l7 l8 l9 l10 : Option Value} {x y : Int32} {st : List Value} {h : jv_H} : jv_ev call 4 36 [l0, l1, l2, l3, l4, l5, l6, l7, l8, l9, l10] (.int y :: .int x :: st) h = jv_ev call 4 37 [l0, l1, l2, l3, l4, l5, l6, l7, l8, l9, l10] (.int (x + y) :: st) h := je_b2 (f := fun x y => x + y) D4_36 rfl (fun _ => rfl)
theorem D4_37 : decode (jt_code 4) 37 = .ok (.lload_n 3, 1) := by decide +kernel
theorem E4_37 {call : jv_F} {l0 l1 l2 l4 l5 l6 l7 l8 l9 l10 : Option Value} {x : Int64} {st : List Value} {h : jv_H} : jv_ev call 4 37 [l0, l1, l2, some (.long x), l4, l5, l6, l7, l8, l9, l10] st h = jv_ev call 4 38 [l0, l1, l2, some (.long x), l4, l5, l6, l7, l8, l9, l10] (.long x :: st) h := je_lload_n D4_37 rfl rfl
theorem D4_38 : decode (jt_code 4) 38 = .ok (.invokestatic 103, 3) := by decide +kernel
theorem E4_38 {call : jv_F} {l0 l1 l2 l3 l4 l5 l6 l7 l8 l9 l10 : Option Value} {v0 : Value}  {st : List Value} {h : jv_H} (hw : jv_wide st = true) (hc : (call 1 [v0] h).isSome = true) : jv_ev call 4 38 [l0, l1, l2, l3, l4, l5, l6, l7, l8, l9, l10] (v0 :: st) h = jv_ev call 4 41 [l0, l1, l2, l3, l4, l5, l6, l7, l8, l9, l10] ((((call 1 [v0] h).getD (none, h)).1).toList ++ st) ((call 1 [v0] h).getD (none, h)).2 := by
  obtain ⟨⟨r, h'⟩, hv⟩ := Option.isSome_iff_exists.mp hc
  rw [hv]
  exact je_stat (y := 1) (as := [v0]) D4_38 rfl (by decide) (by decide) rfl hw hv
theorem D4_41 : decode (jt_code 4) 41 = .ok (.lastore, 1) := by decide +kernel
theorem E4_41 {call : jv_F} {l0 l1 l2 l3 l4 l5 l6 l7 l8 l9 l10 : Option Value} {i : Nat} {v : Int64} {st : List Value} {m : Nat} {I : Nat → Int32} {A : Nat → Nat → Int32} {L : Nat → Nat → Int64} {rest : Nat → Option jv_C} {z : Nat × Nat} (hi : i < 1000) : jv_ev call 4 41 [l0, l1, l2, l3, l4, l5, l6, l7, l8, l9, l10] (.long v :: .int (nI i) :: .ref (m + 1) :: st) (jm_H m I A L rest z) = jv_ev call 4 42 [l0, l1, l2, l3, l4, l5, l6, l7, l8, l9, l10] st (jm_H m I A (va_up L 1 (vp_updL (L 1) i v)) rest z) := je_last D4_41 rfl (jm_s1 hi)
theorem D4_42 : decode (jt_code 4) 42 = .ok (.aload_n 0, 1) := by decide +kernel
theorem E4_42 {call : jv_F} {l1 l2 l3 l4 l5 l6 l7 l8 l9 l10 : Option Value} {a : Nat} {st : List Value} {h : jv_H} : jv_ev call 4 42 [some (.ref a), l1, l2, l3, l4, l5, l6, l7, l8, l9, l10] st h = jv_ev call 4 43 [some (.ref a), l1, l2, l3, l4, l5, l6, l7, l8, l9, l10] (.ref a :: st) h := je_aload_n (r := some a) D4_42 rfl rfl
theorem D4_43 : decode (jt_code 4) 43 = .ok (.getfield 13, 3) := by decide +kernel
theorem E4_43 {call : jv_F} {l0 l1 l2 l3 l4 l5 l6 l7 l8 l9 l10 : Option Value}  {st : List Value} {m : Nat} {I : Nat → Int32} {A : Nat → Nat → Int32} {L : Nat → Nat → Int64} {rest : Nat → Option jv_C} {z : Nat × Nat} : jv_ev call 4 43 [l0, l1, l2, l3, l4, l5, l6, l7, l8, l9, l10] (.ref m :: st) (jm_H m I A L rest z) = jv_ev call 4 46 [l0, l1, l2, l3, l4, l5, l6, l7, l8, l9, l10] (.ref (m + 1) :: st) (jm_H m I A L rest z) := je_get D4_43 rfl (by decide) jm_g1
theorem D4_46 : decode (jt_code 4) 46 = .ok (.aload_n 0, 1) := by decide +kernel
theorem E4_46 {call : jv_F} {l1 l2 l3 l4 l5 l6 l7 l8 l9 l10 : Option Value} {a : Nat} {st : List Value} {h : jv_H} : jv_ev call 4 46 [some (.ref a), l1, l2, l3, l4, l5, l6, l7, l8, l9, l10] st h = jv_ev call 4 47 [some (.ref a), l1, l2, l3, l4, l5, l6, l7, l8, l9, l10] (.ref a :: st) h := je_aload_n (r := some a) D4_46 rfl rfl
theorem D4_47 : decode (jt_code 4) 47 = .ok (.getfield 100, 3) := by decide +kernel
theorem E4_47 {call : jv_F} {l0 l1 l2 l3 l4 l5 l6 l7 l8 l9 l10 : Option Value}  {st : List Value} {m : Nat} {I : Nat → Int32} {A : Nat → Nat → Int32} {L : Nat → Nat → Int64} {rest : Nat → Option jv_C} {z : Nat × Nat} : jv_ev call 4 47 [l0, l1, l2, l3, l4, l5, l6, l7, l8, l9, l10] (.ref m :: st) (jm_H m I A L rest z) = jv_ev call 4 50 [l0, l1, l2, l3, l4, l5, l6, l7, l8, l9, l10] (.int (I 2) :: st) (jm_H m I A L rest z) := je_get D4_47 rfl (by decide) jm_g2
theorem D4_50 : decode (jt_code 4) 50 = .ok (.iconst 2, 1) := by decide +kernel
theorem E4_50 {call : jv_F} {l0 l1 l2 l3 l4 l5 l6 l7 l8 l9 l10 : Option Value}  {st : List Value} {h : jv_H} : jv_ev call 4 50 [l0, l1, l2, l3, l4, l5, l6, l7, l8, l9, l10] st h = jv_ev call 4 51 [l0, l1, l2, l3, l4, l5, l6, l7, l8, l9, l10] (.int (nI 2) :: st) h := je_iconst D4_50 rfl (by decide)
theorem D4_51 : decode (jt_code 4) 51 = .ok (.iadd, 1) := by decide +kernel
theorem E4_51 {call : jv_F} {l0 l1 l2 l3 l4 l5 l6 l7 l8 l9 l10 : Option Value} {x y : Int32} {st : List Value} {h : jv_H} : jv_ev call 4 51 [l0, l1, l2, l3, l4, l5, l6, l7, l8, l9, l10] (.int y :: .int x :: st) h = jv_ev call 4 52 [l0, l1, l2, l3, l4, l5, l6, l7, l8, l9, l10] (.int (x + y) :: st) h := je_b2 (f := fun x y => x + y) D4_51 rfl (fun _ => rfl)
theorem D4_52 : decode (jt_code 4) 52 = .ok (.lload 5, 2) := by decide +kernel
theorem E4_52 {call : jv_F} {l0 l1 l2 l3 l4 l6 l7 l8 l9 l10 : Option Value} {x : Int64} {st : List Value} {h : jv_H} : jv_ev call 4 52 [l0, l1, l2, l3, l4, some (.long x), l6, l7, l8, l9, l10] st h = jv_ev call 4 54 [l0, l1, l2, l3, l4, some (.long x), l6, l7, l8, l9, l10] (.long x :: st) h := je_lload D4_52 rfl rfl
theorem D4_54 : decode (jt_code 4) 54 = .ok (.invokestatic 103, 3) := by decide +kernel
theorem E4_54 {call : jv_F} {l0 l1 l2 l3 l4 l5 l6 l7 l8 l9 l10 : Option Value} {v0 : Value}  {st : List Value} {h : jv_H} (hw : jv_wide st = true) (hc : (call 1 [v0] h).isSome = true) : jv_ev call 4 54 [l0, l1, l2, l3, l4, l5, l6, l7, l8, l9, l10] (v0 :: st) h = jv_ev call 4 57 [l0, l1, l2, l3, l4, l5, l6, l7, l8, l9, l10] ((((call 1 [v0] h).getD (none, h)).1).toList ++ st) ((call 1 [v0] h).getD (none, h)).2 := by
  obtain ⟨⟨r, h'⟩, hv⟩ := Option.isSome_iff_exists.mp hc
  rw [hv]
  exact je_stat (y := 1) (as := [v0]) D4_54 rfl (by decide) (by decide) rfl hw hv
theorem D4_57 : decode (jt_code 4) 57 = .ok (.lastore, 1) := by decide +kernel
theorem E4_57 {call : jv_F} {l0 l1 l2 l3 l4 l5 l6 l7 l8 l9 l10 : Option Value} {i : Nat} {v : Int64} {st : List Value} {m : Nat} {I : Nat → Int32} {A : Nat → Nat → Int32} {L : Nat → Nat → Int64} {rest : Nat → Option jv_C} {z : Nat × Nat} (hi : i < 1000) : jv_ev call 4 57 [l0, l1, l2, l3, l4, l5, l6, l7, l8, l9, l10] (.long v :: .int (nI i) :: .ref (m + 1) :: st) (jm_H m I A L rest z) = jv_ev call 4 58 [l0, l1, l2, l3, l4, l5, l6, l7, l8, l9, l10] st (jm_H m I A (va_up L 1 (vp_updL (L 1) i v)) rest z) := je_last D4_57 rfl (jm_s1 hi)
theorem D4_58 : decode (jt_code 4) 58 = .ok (.aload_n 0, 1) := by decide +kernel
theorem E4_58 {call : jv_F} {l1 l2 l3 l4 l5 l6 l7 l8 l9 l10 : Option Value} {a : Nat} {st : List Value} {h : jv_H} : jv_ev call 4 58 [some (.ref a), l1, l2, l3, l4, l5, l6, l7, l8, l9, l10] st h = jv_ev call 4 59 [some (.ref a), l1, l2, l3, l4, l5, l6, l7, l8, l9, l10] (.ref a :: st) h := je_aload_n (r := some a) D4_58 rfl rfl
theorem D4_59 : decode (jt_code 4) 59 = .ok (.getfield 13, 3) := by decide +kernel
theorem E4_59 {call : jv_F} {l0 l1 l2 l3 l4 l5 l6 l7 l8 l9 l10 : Option Value}  {st : List Value} {m : Nat} {I : Nat → Int32} {A : Nat → Nat → Int32} {L : Nat → Nat → Int64} {rest : Nat → Option jv_C} {z : Nat × Nat} : jv_ev call 4 59 [l0, l1, l2, l3, l4, l5, l6, l7, l8, l9, l10] (.ref m :: st) (jm_H m I A L rest z) = jv_ev call 4 62 [l0, l1, l2, l3, l4, l5, l6, l7, l8, l9, l10] (.ref (m + 1) :: st) (jm_H m I A L rest z) := je_get D4_59 rfl (by decide) jm_g1
theorem D4_62 : decode (jt_code 4) 62 = .ok (.aload_n 0, 1) := by decide +kernel
theorem E4_62 {call : jv_F} {l1 l2 l3 l4 l5 l6 l7 l8 l9 l10 : Option Value} {a : Nat} {st : List Value} {h : jv_H} : jv_ev call 4 62 [some (.ref a), l1, l2, l3, l4, l5, l6, l7, l8, l9, l10] st h = jv_ev call 4 63 [some (.ref a), l1, l2, l3, l4, l5, l6, l7, l8, l9, l10] (.ref a :: st) h := je_aload_n (r := some a) D4_62 rfl rfl
theorem D4_63 : decode (jt_code 4) 63 = .ok (.getfield 100, 3) := by decide +kernel
theorem E4_63 {call : jv_F} {l0 l1 l2 l3 l4 l5 l6 l7 l8 l9 l10 : Option Value}  {st : List Value} {m : Nat} {I : Nat → Int32} {A : Nat → Nat → Int32} {L : Nat → Nat → Int64} {rest : Nat → Option jv_C} {z : Nat × Nat} : jv_ev call 4 63 [l0, l1, l2, l3, l4, l5, l6, l7, l8, l9, l10] (.ref m :: st) (jm_H m I A L rest z) = jv_ev call 4 66 [l0, l1, l2, l3, l4, l5, l6, l7, l8, l9, l10] (.int (I 2) :: st) (jm_H m I A L rest z) := je_get D4_63 rfl (by decide) jm_g2
theorem D4_66 : decode (jt_code 4) 66 = .ok (.iconst 3, 1) := by decide +kernel
theorem E4_66 {call : jv_F} {l0 l1 l2 l3 l4 l5 l6 l7 l8 l9 l10 : Option Value}  {st : List Value} {h : jv_H} : jv_ev call 4 66 [l0, l1, l2, l3, l4, l5, l6, l7, l8, l9, l10] st h = jv_ev call 4 67 [l0, l1, l2, l3, l4, l5, l6, l7, l8, l9, l10] (.int (nI 3) :: st) h := je_iconst D4_66 rfl (by decide)
theorem D4_67 : decode (jt_code 4) 67 = .ok (.iadd, 1) := by decide +kernel
theorem E4_67 {call : jv_F} {l0 l1 l2 l3 l4 l5 l6 l7 l8 l9 l10 : Option Value} {x y : Int32} {st : List Value} {h : jv_H} : jv_ev call 4 67 [l0, l1, l2, l3, l4, l5, l6, l7, l8, l9, l10] (.int y :: .int x :: st) h = jv_ev call 4 68 [l0, l1, l2, l3, l4, l5, l6, l7, l8, l9, l10] (.int (x + y) :: st) h := je_b2 (f := fun x y => x + y) D4_67 rfl (fun _ => rfl)
theorem D4_68 : decode (jt_code 4) 68 = .ok (.lload 7, 2) := by decide +kernel
theorem E4_68 {call : jv_F} {l0 l1 l2 l3 l4 l5 l6 l8 l9 l10 : Option Value} {x : Int64} {st : List Value} {h : jv_H} : jv_ev call 4 68 [l0, l1, l2, l3, l4, l5, l6, some (.long x), l8, l9, l10] st h = jv_ev call 4 70 [l0, l1, l2, l3, l4, l5, l6, some (.long x), l8, l9, l10] (.long x :: st) h := je_lload D4_68 rfl rfl
theorem D4_70 : decode (jt_code 4) 70 = .ok (.invokestatic 103, 3) := by decide +kernel
theorem E4_70 {call : jv_F} {l0 l1 l2 l3 l4 l5 l6 l7 l8 l9 l10 : Option Value} {v0 : Value}  {st : List Value} {h : jv_H} (hw : jv_wide st = true) (hc : (call 1 [v0] h).isSome = true) : jv_ev call 4 70 [l0, l1, l2, l3, l4, l5, l6, l7, l8, l9, l10] (v0 :: st) h = jv_ev call 4 73 [l0, l1, l2, l3, l4, l5, l6, l7, l8, l9, l10] ((((call 1 [v0] h).getD (none, h)).1).toList ++ st) ((call 1 [v0] h).getD (none, h)).2 := by
  obtain ⟨⟨r, h'⟩, hv⟩ := Option.isSome_iff_exists.mp hc
  rw [hv]
  exact je_stat (y := 1) (as := [v0]) D4_70 rfl (by decide) (by decide) rfl hw hv
theorem D4_73 : decode (jt_code 4) 73 = .ok (.lastore, 1) := by decide +kernel
theorem E4_73 {call : jv_F} {l0 l1 l2 l3 l4 l5 l6 l7 l8 l9 l10 : Option Value} {i : Nat} {v : Int64} {st : List Value} {m : Nat} {I : Nat → Int32} {A : Nat → Nat → Int32} {L : Nat → Nat → Int64} {rest : Nat → Option jv_C} {z : Nat × Nat} (hi : i < 1000) : jv_ev call 4 73 [l0, l1, l2, l3, l4, l5, l6, l7, l8, l9, l10] (.long v :: .int (nI i) :: .ref (m + 1) :: st) (jm_H m I A L rest z) = jv_ev call 4 74 [l0, l1, l2, l3, l4, l5, l6, l7, l8, l9, l10] st (jm_H m I A (va_up L 1 (vp_updL (L 1) i v)) rest z) := je_last D4_73 rfl (jm_s1 hi)
theorem D4_74 : decode (jt_code 4) 74 = .ok (.aload_n 0, 1) := by decide +kernel
theorem E4_74 {call : jv_F} {l1 l2 l3 l4 l5 l6 l7 l8 l9 l10 : Option Value} {a : Nat} {st : List Value} {h : jv_H} : jv_ev call 4 74 [some (.ref a), l1, l2, l3, l4, l5, l6, l7, l8, l9, l10] st h = jv_ev call 4 75 [some (.ref a), l1, l2, l3, l4, l5, l6, l7, l8, l9, l10] (.ref a :: st) h := je_aload_n (r := some a) D4_74 rfl rfl
theorem D4_75 : decode (jt_code 4) 75 = .ok (.getfield 13, 3) := by decide +kernel
theorem E4_75 {call : jv_F} {l0 l1 l2 l3 l4 l5 l6 l7 l8 l9 l10 : Option Value}  {st : List Value} {m : Nat} {I : Nat → Int32} {A : Nat → Nat → Int32} {L : Nat → Nat → Int64} {rest : Nat → Option jv_C} {z : Nat × Nat} : jv_ev call 4 75 [l0, l1, l2, l3, l4, l5, l6, l7, l8, l9, l10] (.ref m :: st) (jm_H m I A L rest z) = jv_ev call 4 78 [l0, l1, l2, l3, l4, l5, l6, l7, l8, l9, l10] (.ref (m + 1) :: st) (jm_H m I A L rest z) := je_get D4_75 rfl (by decide) jm_g1
theorem D4_78 : decode (jt_code 4) 78 = .ok (.aload_n 0, 1) := by decide +kernel
theorem E4_78 {call : jv_F} {l1 l2 l3 l4 l5 l6 l7 l8 l9 l10 : Option Value} {a : Nat} {st : List Value} {h : jv_H} : jv_ev call 4 78 [some (.ref a), l1, l2, l3, l4, l5, l6, l7, l8, l9, l10] st h = jv_ev call 4 79 [some (.ref a), l1, l2, l3, l4, l5, l6, l7, l8, l9, l10] (.ref a :: st) h := je_aload_n (r := some a) D4_78 rfl rfl
theorem D4_79 : decode (jt_code 4) 79 = .ok (.getfield 100, 3) := by decide +kernel
theorem E4_79 {call : jv_F} {l0 l1 l2 l3 l4 l5 l6 l7 l8 l9 l10 : Option Value}  {st : List Value} {m : Nat} {I : Nat → Int32} {A : Nat → Nat → Int32} {L : Nat → Nat → Int64} {rest : Nat → Option jv_C} {z : Nat × Nat} : jv_ev call 4 79 [l0, l1, l2, l3, l4, l5, l6, l7, l8, l9, l10] (.ref m :: st) (jm_H m I A L rest z) = jv_ev call 4 82 [l0, l1, l2, l3, l4, l5, l6, l7, l8, l9, l10] (.int (I 2) :: st) (jm_H m I A L rest z) := je_get D4_79 rfl (by decide) jm_g2
theorem D4_82 : decode (jt_code 4) 82 = .ok (.iconst 4, 1) := by decide +kernel
theorem E4_82 {call : jv_F} {l0 l1 l2 l3 l4 l5 l6 l7 l8 l9 l10 : Option Value}  {st : List Value} {h : jv_H} : jv_ev call 4 82 [l0, l1, l2, l3, l4, l5, l6, l7, l8, l9, l10] st h = jv_ev call 4 83 [l0, l1, l2, l3, l4, l5, l6, l7, l8, l9, l10] (.int (nI 4) :: st) h := je_iconst D4_82 rfl (by decide)
theorem D4_83 : decode (jt_code 4) 83 = .ok (.iadd, 1) := by decide +kernel
theorem E4_83 {call : jv_F} {l0 l1 l2 l3 l4 l5 l6 l7 l8 l9 l10 : Option Value} {x y : Int32} {st : List Value} {h : jv_H} : jv_ev call 4 83 [l0, l1, l2, l3, l4, l5, l6, l7, l8, l9, l10] (.int y :: .int x :: st) h = jv_ev call 4 84 [l0, l1, l2, l3, l4, l5, l6, l7, l8, l9, l10] (.int (x + y) :: st) h := je_b2 (f := fun x y => x + y) D4_83 rfl (fun _ => rfl)
theorem D4_84 : decode (jt_code 4) 84 = .ok (.lload 9, 2) := by decide +kernel
theorem E4_84 {call : jv_F} {l0 l1 l2 l3 l4 l5 l6 l7 l8 l10 : Option Value} {x : Int64} {st : List Value} {h : jv_H} : jv_ev call 4 84 [l0, l1, l2, l3, l4, l5, l6, l7, l8, some (.long x), l10] st h = jv_ev call 4 86 [l0, l1, l2, l3, l4, l5, l6, l7, l8, some (.long x), l10] (.long x :: st) h := je_lload D4_84 rfl rfl
theorem D4_86 : decode (jt_code 4) 86 = .ok (.invokestatic 103, 3) := by decide +kernel
theorem E4_86 {call : jv_F} {l0 l1 l2 l3 l4 l5 l6 l7 l8 l9 l10 : Option Value} {v0 : Value}  {st : List Value} {h : jv_H} (hw : jv_wide st = true) (hc : (call 1 [v0] h).isSome = true) : jv_ev call 4 86 [l0, l1, l2, l3, l4, l5, l6, l7, l8, l9, l10] (v0 :: st) h = jv_ev call 4 89 [l0, l1, l2, l3, l4, l5, l6, l7, l8, l9, l10] ((((call 1 [v0] h).getD (none, h)).1).toList ++ st) ((call 1 [v0] h).getD (none, h)).2 := by
  obtain ⟨⟨r, h'⟩, hv⟩ := Option.isSome_iff_exists.mp hc
  rw [hv]
  exact je_stat (y := 1) (as := [v0]) D4_86 rfl (by decide) (by decide) rfl hw hv
theorem D4_89 : decode (jt_code 4) 89 = .ok (.lastore, 1) := by decide +kernel
theorem E4_89 {call : jv_F} {l0 l1 l2 l3 l4 l5 l6 l7 l8 l9 l10 : Option Value} {i : Nat} {v : Int64} {st : List Value} {m : Nat} {I : Nat → Int32} {A : Nat → Nat → Int32} {L : Nat → Nat → Int64} {rest : Nat → Option jv_C} {z : Nat × Nat} (hi : i < 1000) : jv_ev call 4 89 [l0, l1, l2, l3, l4, l5, l6, l7, l8, l9, l10] (.long v :: .int (nI i) :: .ref (m + 1) :: st) (jm_H m I A L rest z) = jv_ev call 4 90 [l0, l1, l2, l3, l4, l5, l6, l7, l8, l9, l10] st (jm_H m I A (va_up L 1 (vp_updL (L 1) i v)) rest z) := je_last D4_89 rfl (jm_s1 hi)
theorem D4_90 : decode (jt_code 4) 90 = .ok (.aload_n 0, 1) := by decide +kernel
theorem E4_90 {call : jv_F} {l1 l2 l3 l4 l5 l6 l7 l8 l9 l10 : Option Value} {a : Nat} {st : List Value} {h : jv_H} : jv_ev call 4 90 [some (.ref a), l1, l2, l3, l4, l5, l6, l7, l8, l9, l10] st h = jv_ev call 4 91 [some (.ref a), l1, l2, l3, l4, l5, l6, l7, l8, l9, l10] (.ref a :: st) h := je_aload_n (r := some a) D4_90 rfl rfl
theorem D4_91 : decode (jt_code 4) 91 = .ok (.dup, 1) := by decide +kernel
theorem E4_91 {call : jv_F} {l0 l1 l2 l3 l4 l5 l6 l7 l8 l9 l10 : Option Value} {a : Nat} {st : List Value} {h : jv_H} : jv_ev call 4 91 [l0, l1, l2, l3, l4, l5, l6, l7, l8, l9, l10] (.ref a :: st) h = jv_ev call 4 92 [l0, l1, l2, l3, l4, l5, l6, l7, l8, l9, l10] (.ref a :: .ref a :: st) h := je_dup D4_91 rfl rfl
theorem E4_91i {call : jv_F} {l0 l1 l2 l3 l4 l5 l6 l7 l8 l9 l10 : Option Value} {x : Int32} {st : List Value} {h : jv_H} : jv_ev call 4 91 [l0, l1, l2, l3, l4, l5, l6, l7, l8, l9, l10] (.int x :: st) h = jv_ev call 4 92 [l0, l1, l2, l3, l4, l5, l6, l7, l8, l9, l10] (.int x :: .int x :: st) h := je_dup D4_91 rfl rfl
theorem D4_92 : decode (jt_code 4) 92 = .ok (.getfield 100, 3) := by decide +kernel
theorem E4_92 {call : jv_F} {l0 l1 l2 l3 l4 l5 l6 l7 l8 l9 l10 : Option Value}  {st : List Value} {m : Nat} {I : Nat → Int32} {A : Nat → Nat → Int32} {L : Nat → Nat → Int64} {rest : Nat → Option jv_C} {z : Nat × Nat} : jv_ev call 4 92 [l0, l1, l2, l3, l4, l5, l6, l7, l8, l9, l10] (.ref m :: st) (jm_H m I A L rest z) = jv_ev call 4 95 [l0, l1, l2, l3, l4, l5, l6, l7, l8, l9, l10] (.int (I 2) :: st) (jm_H m I A L rest z) := je_get D4_92 rfl (by decide) jm_g2
theorem D4_95 : decode (jt_code 4) 95 = .ok (.iconst 5, 1) := by decide +kernel
theorem E4_95 {call : jv_F} {l0 l1 l2 l3 l4 l5 l6 l7 l8 l9 l10 : Option Value}  {st : List Value} {h : jv_H} : jv_ev call 4 95 [l0, l1, l2, l3, l4, l5, l6, l7, l8, l9, l10] st h = jv_ev call 4 96 [l0, l1, l2, l3, l4, l5, l6, l7, l8, l9, l10] (.int (nI 5) :: st) h := je_iconst D4_95 rfl (by decide)
theorem D4_96 : decode (jt_code 4) 96 = .ok (.iadd, 1) := by decide +kernel
theorem E4_96 {call : jv_F} {l0 l1 l2 l3 l4 l5 l6 l7 l8 l9 l10 : Option Value} {x y : Int32} {st : List Value} {h : jv_H} : jv_ev call 4 96 [l0, l1, l2, l3, l4, l5, l6, l7, l8, l9, l10] (.int y :: .int x :: st) h = jv_ev call 4 97 [l0, l1, l2, l3, l4, l5, l6, l7, l8, l9, l10] (.int (x + y) :: st) h := je_b2 (f := fun x y => x + y) D4_96 rfl (fun _ => rfl)
theorem D4_97 : decode (jt_code 4) 97 = .ok (.putfield 100, 3) := by decide +kernel
theorem E4_97 {call : jv_F} {l0 l1 l2 l3 l4 l5 l6 l7 l8 l9 l10 : Option Value} {v : Int32} {st : List Value} {m : Nat} {I : Nat → Int32} {A : Nat → Nat → Int32} {L : Nat → Nat → Int64} {rest : Nat → Option jv_C} {z : Nat × Nat} : jv_ev call 4 97 [l0, l1, l2, l3, l4, l5, l6, l7, l8, l9, l10] (.int v :: .ref m :: st) (jm_H m I A L rest z) = jv_ev call 4 100 [l0, l1, l2, l3, l4, l5, l6, l7, l8, l9, l10] st (jm_H m (upd I 2 v) A L rest z) := je_put D4_97 rfl (by decide) (by decide) jm_p2
theorem D4_100 : decode (jt_code 4) 100 = .ok (.aload_n 0, 1) := by decide +kernel
theorem E4_100 {call : jv_F} {l1 l2 l3 l4 l5 l6 l7 l8 l9 l10 : Option Value} {a : Nat} {st : List Value} {h : jv_H} : jv_ev call 4 100 [some (.ref a), l1, l2, l3, l4, l5, l6, l7, l8, l9, l10] st h = jv_ev call 4 101 [some (.ref a), l1, l2, l3, l4, l5, l6, l7, l8, l9, l10] (.ref a :: st) h := je_aload_n (r := some a) D4_100 rfl rfl
theorem D4_101 : decode (jt_code 4) 101 = .ok (.getfield 100, 3) := by decide +kernel
theorem E4_101 {call : jv_F} {l0 l1 l2 l3 l4 l5 l6 l7 l8 l9 l10 : Option Value}  {st : List Value} {m : Nat} {I : Nat → Int32} {A : Nat → Nat → Int32} {L : Nat → Nat → Int64} {rest : Nat → Option jv_C} {z : Nat × Nat} : jv_ev call 4 101 [l0, l1, l2, l3, l4, l5, l6, l7, l8, l9, l10] (.ref m :: st) (jm_H m I A L rest z) = jv_ev call 4 104 [l0, l1, l2, l3, l4, l5, l6, l7, l8, l9, l10] (.int (I 2) :: st) (jm_H m I A L rest z) := je_get D4_101 rfl (by decide) jm_g2
theorem D4_104 : decode (jt_code 4) 104 = .ok (.ireturn, 1) := by decide +kernel
theorem E4_104 {call : jv_F} {l0 l1 l2 l3 l4 l5 l6 l7 l8 l9 l10 : Option Value} {v : Int32} {h : jv_H} : jv_ev call 4 104 [l0, l1, l2, l3, l4, l5, l6, l7, l8, l9, l10] [.int v] h = some (some (.int v), h) := je_iret (ty := .int) D4_104 rfl rfl rfl
/-! method 5: DrumMachineModel.bytes -/
theorem N5 {d : Nat} {b : Nat} {a0 : Int64} {a1 : Int64} {a2 : Int64} {a3 : Int64} {a4 : Int32} {h : jv_H} : jv_run (d + 1) 5 [.ref b, .long a0, .long a1, .long a2, .long a3, .int a4] h = jv_ev (jv_run d) 5 0 [some (.ref b), some (.long a0), none, some (.long a1), none, some (.long a2), none, some (.long a3), none, some (.int a4), none, none, none] [] h := jv_run_eq (Nat.le_of_ble_eq_true rfl) rfl
theorem D5_0 : decode (jt_code 5) 0 = .ok (.iload 9, 2) := by decide +kernel
theorem E5_0 {call : jv_F} {l0 l1 l2 l3 l4 l5 l6 l7 l8 l10 l11 l12 : Option Value} {x : Int32} {st : List Value} {h : jv_H} : jv_ev call 5 0 [l0, l1, l2, l3, l4, l5, l6, l7, l8, some (.int x), l10, l11, l12] st h = jv_ev call 5 2 [l0, l1, l2, l3, l4, l5, l6, l7, l8, some (.int x), l10, l11, l12] (.int x :: st) h := je_iload D5_0 rfl rfl
theorem D5_2 : decode (jt_code 5) 2 = .ok (.ifCond .lt 23, 3) := by decide +kernel
theorem E5_2 {call : jv_F} {l0 l1 l2 l3 l4 l5 l6 l7 l8 l9 l10 l11 l12 : Option Value} {x : Int32} {st : List Value} {h : jv_H} : jv_ev call 5 2 [l0, l1, l2, l3, l4, l5, l6, l7, l8, l9, l10, l11, l12] (.int x :: st) h = if x < 0 then jv_ev call 5 25 [l0, l1, l2, l3, l4, l5, l6, l7, l8, l9, l10, l11, l12] st h else jv_ev call 5 5 [l0, l1, l2, l3, l4, l5, l6, l7, l8, l9, l10, l11, l12] st h := je_ifc D5_2 (by decide) rfl rfl
theorem D5_5 : decode (jt_code 5) 5 = .ok (.iload 9, 2) := by decide +kernel
theorem E5_5 {call : jv_F} {l0 l1 l2 l3 l4 l5 l6 l7 l8 l10 l11 l12 : Option Value} {x : Int32} {st : List Value} {h : jv_H} : jv_ev call 5 5 [l0, l1, l2, l3, l4, l5, l6, l7, l8, some (.int x), l10, l11, l12] st h = jv_ev call 5 7 [l0, l1, l2, l3, l4, l5, l6, l7, l8, some (.int x), l10, l11, l12] (.int x :: st) h := je_iload D5_5 rfl rfl
theorem D5_7 : decode (jt_code 5) 7 = .ok (.bipush 32, 2) := by decide +kernel
theorem E5_7 {call : jv_F} {l0 l1 l2 l3 l4 l5 l6 l7 l8 l9 l10 l11 l12 : Option Value}  {st : List Value} {h : jv_H} : jv_ev call 5 7 [l0, l1, l2, l3, l4, l5, l6, l7, l8, l9, l10, l11, l12] st h = jv_ev call 5 9 [l0, l1, l2, l3, l4, l5, l6, l7, l8, l9, l10, l11, l12] (.int (nI 32) :: st) h := je_bipush D5_7 rfl (by decide)
theorem D5_9 : decode (jt_code 5) 9 = .ok (.if_icmp .gt 16, 3) := by decide +kernel
theorem E5_9 {call : jv_F} {l0 l1 l2 l3 l4 l5 l6 l7 l8 l9 l10 l11 l12 : Option Value} {x y : Int32} {st : List Value} {h : jv_H} : jv_ev call 5 9 [l0, l1, l2, l3, l4, l5, l6, l7, l8, l9, l10, l11, l12] (.int y :: .int x :: st) h = if y < x then jv_ev call 5 25 [l0, l1, l2, l3, l4, l5, l6, l7, l8, l9, l10, l11, l12] st h else jv_ev call 5 12 [l0, l1, l2, l3, l4, l5, l6, l7, l8, l9, l10, l11, l12] st h := je_icmp D5_9 (by decide) rfl rfl
theorem D5_12 : decode (jt_code 5) 12 = .ok (.aload_n 0, 1) := by decide +kernel
theorem E5_12 {call : jv_F} {l1 l2 l3 l4 l5 l6 l7 l8 l9 l10 l11 l12 : Option Value} {a : Nat} {st : List Value} {h : jv_H} : jv_ev call 5 12 [some (.ref a), l1, l2, l3, l4, l5, l6, l7, l8, l9, l10, l11, l12] st h = jv_ev call 5 13 [some (.ref a), l1, l2, l3, l4, l5, l6, l7, l8, l9, l10, l11, l12] (.ref a :: st) h := je_aload_n (r := some a) D5_12 rfl rfl
theorem D5_13 : decode (jt_code 5) 13 = .ok (.getfield 107, 3) := by decide +kernel
theorem E5_13 {call : jv_F} {l0 l1 l2 l3 l4 l5 l6 l7 l8 l9 l10 l11 l12 : Option Value}  {st : List Value} {m : Nat} {I : Nat → Int32} {A : Nat → Nat → Int32} {L : Nat → Nat → Int64} {rest : Nat → Option jv_C} {z : Nat × Nat} : jv_ev call 5 13 [l0, l1, l2, l3, l4, l5, l6, l7, l8, l9, l10, l11, l12] (.ref m :: st) (jm_H m I A L rest z) = jv_ev call 5 16 [l0, l1, l2, l3, l4, l5, l6, l7, l8, l9, l10, l11, l12] (.int (I 4) :: st) (jm_H m I A L rest z) := je_get D5_13 rfl (by decide) jm_g4
theorem D5_16 : decode (jt_code 5) 16 = .ok (.iload 9, 2) := by decide +kernel
theorem E5_16 {call : jv_F} {l0 l1 l2 l3 l4 l5 l6 l7 l8 l10 l11 l12 : Option Value} {x : Int32} {st : List Value} {h : jv_H} : jv_ev call 5 16 [l0, l1, l2, l3, l4, l5, l6, l7, l8, some (.int x), l10, l11, l12] st h = jv_ev call 5 18 [l0, l1, l2, l3, l4, l5, l6, l7, l8, some (.int x), l10, l11, l12] (.int x :: st) h := je_iload D5_16 rfl rfl
theorem D5_18 : decode (jt_code 5) 18 = .ok (.iadd, 1) := by decide +kernel
theorem E5_18 {call : jv_F} {l0 l1 l2 l3 l4 l5 l6 l7 l8 l9 l10 l11 l12 : Option Value} {x y : Int32} {st : List Value} {h : jv_H} : jv_ev call 5 18 [l0, l1, l2, l3, l4, l5, l6, l7, l8, l9, l10, l11, l12] (.int y :: .int x :: st) h = jv_ev call 5 19 [l0, l1, l2, l3, l4, l5, l6, l7, l8, l9, l10, l11, l12] (.int (x + y) :: st) h := je_b2 (f := fun x y => x + y) D5_18 rfl (fun _ => rfl)
theorem D5_19 : decode (jt_code 5) 19 = .ok (.sipush 2000, 3) := by decide +kernel
theorem E5_19 {call : jv_F} {l0 l1 l2 l3 l4 l5 l6 l7 l8 l9 l10 l11 l12 : Option Value}  {st : List Value} {h : jv_H} : jv_ev call 5 19 [l0, l1, l2, l3, l4, l5, l6, l7, l8, l9, l10, l11, l12] st h = jv_ev call 5 22 [l0, l1, l2, l3, l4, l5, l6, l7, l8, l9, l10, l11, l12] (.int (nI 2000) :: st) h := je_sipush D5_19 rfl (by decide)
theorem D5_22 : decode (jt_code 5) 22 = .ok (.if_icmp .le 5, 3) := by decide +kernel
theorem E5_22 {call : jv_F} {l0 l1 l2 l3 l4 l5 l6 l7 l8 l9 l10 l11 l12 : Option Value} {x y : Int32} {st : List Value} {h : jv_H} : jv_ev call 5 22 [l0, l1, l2, l3, l4, l5, l6, l7, l8, l9, l10, l11, l12] (.int y :: .int x :: st) h = if x ≤ y then jv_ev call 5 27 [l0, l1, l2, l3, l4, l5, l6, l7, l8, l9, l10, l11, l12] st h else jv_ev call 5 25 [l0, l1, l2, l3, l4, l5, l6, l7, l8, l9, l10, l11, l12] st h := je_icmp D5_22 (by decide) rfl rfl
theorem D5_25 : decode (jt_code 5) 25 = .ok (.iconst (-1), 1) := by decide +kernel
theorem E5_25 {call : jv_F} {l0 l1 l2 l3 l4 l5 l6 l7 l8 l9 l10 l11 l12 : Option Value}  {st : List Value} {h : jv_H} : jv_ev call 5 25 [l0, l1, l2, l3, l4, l5, l6, l7, l8, l9, l10, l11, l12] st h = jv_ev call 5 26 [l0, l1, l2, l3, l4, l5, l6, l7, l8, l9, l10, l11, l12] (.int (-1) :: st) h := je_iconst D5_25 rfl (by decide)
theorem D5_26 : decode (jt_code 5) 26 = .ok (.ireturn, 1) := by decide +kernel
theorem E5_26 {call : jv_F} {l0 l1 l2 l3 l4 l5 l6 l7 l8 l9 l10 l11 l12 : Option Value} {v : Int32} {h : jv_H} : jv_ev call 5 26 [l0, l1, l2, l3, l4, l5, l6, l7, l8, l9, l10, l11, l12] [.int v] h = some (some (.int v), h) := je_iret (ty := .int) D5_26 rfl rfl rfl
theorem D5_27 : decode (jt_code 5) 27 = .ok (.iconst 0, 1) := by decide +kernel
theorem E5_27 {call : jv_F} {l0 l1 l2 l3 l4 l5 l6 l7 l8 l9 l10 l11 l12 : Option Value}  {st : List Value} {h : jv_H} : jv_ev call 5 27 [l0, l1, l2, l3, l4, l5, l6, l7, l8, l9, l10, l11, l12] st h = jv_ev call 5 28 [l0, l1, l2, l3, l4, l5, l6, l7, l8, l9, l10, l11, l12] (.int (nI 0) :: st) h := je_iconst D5_27 rfl (by decide)
theorem D5_28 : decode (jt_code 5) 28 = .ok (.istore 10, 2) := by decide +kernel
theorem E5_28 {call : jv_F} {l0 l1 l2 l3 l4 l5 l6 l7 l8 l9 l10 l11 l12 : Option Value} {x : Int32} {st : List Value} {h : jv_H} (hk : ¬ jv_is2 (some l9) = true) : jv_ev call 5 28 [l0, l1, l2, l3, l4, l5, l6, l7, l8, l9, l10, l11, l12] (.int x :: st) h = jv_ev call 5 30 [l0, l1, l2, l3, l4, l5, l6, l7, l8, l9, some (.int x), l11, l12] st h := je_istore D5_28 rfl (Nat.le_of_ble_eq_true rfl) (by show jv_st1 _ 10 _ = _; simp only [jv_st1, jv_kill, List.getElem?_cons_succ, List.getElem?_cons_zero, hk, if_false]; rfl)
theorem D5_30 : decode (jt_code 5) 30 = .ok (.iload 10, 2) := by decide +kernel
theorem E5_30 {call : jv_F} {l0 l1 l2 l3 l4 l5 l6 l7 l8 l9 l11 l12 : Option Value} {x : Int32} {st : List Value} {h : jv_H} : jv_ev call 5 30 [l0, l1, l2, l3, l4, l5, l6, l7, l8, l9, some (.int x), l11, l12] st h = jv_ev call 5 32 [l0, l1, l2, l3, l4, l5, l6, l7, l8, l9, some (.int x), l11, l12] (.int x :: st) h := je_iload D5_30 rfl rfl
theorem D5_32 : decode (jt_code 5) 32 = .ok (.iload 9, 2) := by decide +kernel
theorem E5_32 {call : jv_F} {l0 l1 l2 l3 l4 l5 l6 l7 l8 l10 l11 l12 : Option Value} {x : Int32} {st : List Value} {h : jv_H} : jv_ev call 5 32 [l0, l1, l2, l3, l4, l5, l6, l7, l8, some (.int x), l10, l11, l12] st h = jv_ev call 5 34 [l0, l1, l2, l3, l4, l5, l6, l7, l8, some (.int x), l10, l11, l12] (.int x :: st) h := je_iload D5_32 rfl rfl
theorem D5_34 : decode (jt_code 5) 34 = .ok (.if_icmp .ge 85, 3) := by decide +kernel
theorem E5_34 {call : jv_F} {l0 l1 l2 l3 l4 l5 l6 l7 l8 l9 l10 l11 l12 : Option Value} {x y : Int32} {st : List Value} {h : jv_H} : jv_ev call 5 34 [l0, l1, l2, l3, l4, l5, l6, l7, l8, l9, l10, l11, l12] (.int y :: .int x :: st) h = if y ≤ x then jv_ev call 5 119 [l0, l1, l2, l3, l4, l5, l6, l7, l8, l9, l10, l11, l12] st h else jv_ev call 5 37 [l0, l1, l2, l3, l4, l5, l6, l7, l8, l9, l10, l11, l12] st h := je_icmp D5_34 (by decide) rfl rfl
theorem D5_37 : decode (jt_code 5) 37 = .ok (.iload 10, 2) := by decide +kernel
theorem E5_37 {call : jv_F} {l0 l1 l2 l3 l4 l5 l6 l7 l8 l9 l11 l12 : Option Value} {x : Int32} {st : List Value} {h : jv_H} : jv_ev call 5 37 [l0, l1, l2, l3, l4, l5, l6, l7, l8, l9, some (.int x), l11, l12] st h = jv_ev call 5 39 [l0, l1, l2, l3, l4, l5, l6, l7, l8, l9, some (.int x), l11, l12] (.int x :: st) h := je_iload D5_37 rfl rfl
theorem D5_39 : decode (jt_code 5) 39 = .ok (.bipush 8, 2) := by decide +kernel
theorem E5_39 {call : jv_F} {l0 l1 l2 l3 l4 l5 l6 l7 l8 l9 l10 l11 l12 : Option Value}  {st : List Value} {h : jv_H} : jv_ev call 5 39 [l0, l1, l2, l3, l4, l5, l6, l7, l8, l9, l10, l11, l12] st h = jv_ev call 5 41 [l0, l1, l2, l3, l4, l5, l6, l7, l8, l9, l10, l11, l12] (.int (nI 8) :: st) h := je_bipush D5_39 rfl (by decide)
theorem D5_41 : decode (jt_code 5) 41 = .ok (.if_icmp .ge 7, 3) := by decide +kernel
theorem E5_41 {call : jv_F} {l0 l1 l2 l3 l4 l5 l6 l7 l8 l9 l10 l11 l12 : Option Value} {x y : Int32} {st : List Value} {h : jv_H} : jv_ev call 5 41 [l0, l1, l2, l3, l4, l5, l6, l7, l8, l9, l10, l11, l12] (.int y :: .int x :: st) h = if y ≤ x then jv_ev call 5 48 [l0, l1, l2, l3, l4, l5, l6, l7, l8, l9, l10, l11, l12] st h else jv_ev call 5 44 [l0, l1, l2, l3, l4, l5, l6, l7, l8, l9, l10, l11, l12] st h := je_icmp D5_41 (by decide) rfl rfl
theorem D5_44 : decode (jt_code 5) 44 = .ok (.lload_n 1, 1) := by decide +kernel
theorem E5_44 {call : jv_F} {l0 l2 l3 l4 l5 l6 l7 l8 l9 l10 l11 l12 : Option Value} {x : Int64} {st : List Value} {h : jv_H} : jv_ev call 5 44 [l0, some (.long x), l2, l3, l4, l5, l6, l7, l8, l9, l10, l11, l12] st h = jv_ev call 5 45 [l0, some (.long x), l2, l3, l4, l5, l6, l7, l8, l9, l10, l11, l12] (.long x :: st) h := je_lload_n D5_44 rfl rfl
theorem D5_45 : decode (jt_code 5) 45 = .ok (.goto 28, 3) := by decide +kernel
theorem E5_45 {call : jv_F} {l0 l1 l2 l3 l4 l5 l6 l7 l8 l9 l10 l11 l12 : Option Value}  {st : List Value} {h : jv_H} : jv_ev call 5 45 [l0, l1, l2, l3, l4, l5, l6, l7, l8, l9, l10, l11, l12] st h = jv_ev call 5 73 [l0, l1, l2, l3, l4, l5, l6, l7, l8, l9, l10, l11, l12] st h := je_goto D5_45 (by decide)
theorem D5_48 : decode (jt_code 5) 48 = .ok (.iload 10, 2) := by decide +kernel
theorem E5_48 {call : jv_F} {l0 l1 l2 l3 l4 l5 l6 l7 l8 l9 l11 l12 : Option Value} {x : Int32} {st : List Value} {h : jv_H} : jv_ev call 5 48 [l0, l1, l2, l3, l4, l5, l6, l7, l8, l9, some (.int x), l11, l12] st h = jv_ev call 5 50 [l0, l1, l2, l3, l4, l5, l6, l7, l8, l9, some (.int x), l11, l12] (.int x :: st) h := je_iload D5_48 rfl rfl
theorem D5_50 : decode (jt_code 5) 50 = .ok (.bipush 16, 2) := by decide +kernel
theorem E5_50 {call : jv_F} {l0 l1 l2 l3 l4 l5 l6 l7 l8 l9 l10 l11 l12 : Option Value}  {st : List Value} {h : jv_H} : jv_ev call 5 50 [l0, l1, l2, l3, l4, l5, l6, l7, l8, l9, l10, l11, l12] st h = jv_ev call 5 52 [l0, l1, l2, l3, l4, l5, l6, l7, l8, l9, l10, l11, l12] (.int (nI 16) :: st) h := je_bipush D5_50 rfl (by decide)
theorem D5_52 : decode (jt_code 5) 52 = .ok (.if_icmp .ge 7, 3) := by decide +kernel
theorem E5_52 {call : jv_F} {l0 l1 l2 l3 l4 l5 l6 l7 l8 l9 l10 l11 l12 : Option Value} {x y : Int32} {st : List Value} {h : jv_H} : jv_ev call 5 52 [l0, l1, l2, l3, l4, l5, l6, l7, l8, l9, l10, l11, l12] (.int y :: .int x :: st) h = if y ≤ x then jv_ev call 5 59 [l0, l1, l2, l3, l4, l5, l6, l7, l8, l9, l10, l11, l12] st h else jv_ev call 5 55 [l0, l1, l2, l3, l4, l5, l6, l7, l8, l9, l10, l11, l12] st h := je_icmp D5_52 (by decide) rfl rfl
theorem D5_55 : decode (jt_code 5) 55 = .ok (.lload_n 3, 1) := by decide +kernel
theorem E5_55 {call : jv_F} {l0 l1 l2 l4 l5 l6 l7 l8 l9 l10 l11 l12 : Option Value} {x : Int64} {st : List Value} {h : jv_H} : jv_ev call 5 55 [l0, l1, l2, some (.long x), l4, l5, l6, l7, l8, l9, l10, l11, l12] st h = jv_ev call 5 56 [l0, l1, l2, some (.long x), l4, l5, l6, l7, l8, l9, l10, l11, l12] (.long x :: st) h := je_lload_n D5_55 rfl rfl
theorem D5_56 : decode (jt_code 5) 56 = .ok (.goto 17, 3) := by decide +kernel
theorem E5_56 {call : jv_F} {l0 l1 l2 l3 l4 l5 l6 l7 l8 l9 l10 l11 l12 : Option Value}  {st : List Value} {h : jv_H} : jv_ev call 5 56 [l0, l1, l2, l3, l4, l5, l6, l7, l8, l9, l10, l11, l12] st h = jv_ev call 5 73 [l0, l1, l2, l3, l4, l5, l6, l7, l8, l9, l10, l11, l12] st h := je_goto D5_56 (by decide)
theorem D5_59 : decode (jt_code 5) 59 = .ok (.iload 10, 2) := by decide +kernel
theorem E5_59 {call : jv_F} {l0 l1 l2 l3 l4 l5 l6 l7 l8 l9 l11 l12 : Option Value} {x : Int32} {st : List Value} {h : jv_H} : jv_ev call 5 59 [l0, l1, l2, l3, l4, l5, l6, l7, l8, l9, some (.int x), l11, l12] st h = jv_ev call 5 61 [l0, l1, l2, l3, l4, l5, l6, l7, l8, l9, some (.int x), l11, l12] (.int x :: st) h := je_iload D5_59 rfl rfl
theorem D5_61 : decode (jt_code 5) 61 = .ok (.bipush 24, 2) := by decide +kernel
theorem E5_61 {call : jv_F} {l0 l1 l2 l3 l4 l5 l6 l7 l8 l9 l10 l11 l12 : Option Value}  {st : List Value} {h : jv_H} : jv_ev call 5 61 [l0, l1, l2, l3, l4, l5, l6, l7, l8, l9, l10, l11, l12] st h = jv_ev call 5 63 [l0, l1, l2, l3, l4, l5, l6, l7, l8, l9, l10, l11, l12] (.int (nI 24) :: st) h := je_bipush D5_61 rfl (by decide)
theorem D5_63 : decode (jt_code 5) 63 = .ok (.if_icmp .ge 8, 3) := by decide +kernel
theorem E5_63 {call : jv_F} {l0 l1 l2 l3 l4 l5 l6 l7 l8 l9 l10 l11 l12 : Option Value} {x y : Int32} {st : List Value} {h : jv_H} : jv_ev call 5 63 [l0, l1, l2, l3, l4, l5, l6, l7, l8, l9, l10, l11, l12] (.int y :: .int x :: st) h = if y ≤ x then jv_ev call 5 71 [l0, l1, l2, l3, l4, l5, l6, l7, l8, l9, l10, l11, l12] st h else jv_ev call 5 66 [l0, l1, l2, l3, l4, l5, l6, l7, l8, l9, l10, l11, l12] st h := je_icmp D5_63 (by decide) rfl rfl
theorem D5_66 : decode (jt_code 5) 66 = .ok (.lload 5, 2) := by decide +kernel
theorem E5_66 {call : jv_F} {l0 l1 l2 l3 l4 l6 l7 l8 l9 l10 l11 l12 : Option Value} {x : Int64} {st : List Value} {h : jv_H} : jv_ev call 5 66 [l0, l1, l2, l3, l4, some (.long x), l6, l7, l8, l9, l10, l11, l12] st h = jv_ev call 5 68 [l0, l1, l2, l3, l4, some (.long x), l6, l7, l8, l9, l10, l11, l12] (.long x :: st) h := je_lload D5_66 rfl rfl
theorem D5_68 : decode (jt_code 5) 68 = .ok (.goto 5, 3) := by decide +kernel
theorem E5_68 {call : jv_F} {l0 l1 l2 l3 l4 l5 l6 l7 l8 l9 l10 l11 l12 : Option Value}  {st : List Value} {h : jv_H} : jv_ev call 5 68 [l0, l1, l2, l3, l4, l5, l6, l7, l8, l9, l10, l11, l12] st h = jv_ev call 5 73 [l0, l1, l2, l3, l4, l5, l6, l7, l8, l9, l10, l11, l12] st h := je_goto D5_68 (by decide)
theorem D5_71 : decode (jt_code 5) 71 = .ok (.lload 7, 2) := by decide +kernel
theorem E5_71 {call : jv_F} {l0 l1 l2 l3 l4 l5 l6 l8 l9 l10 l11 l12 : Option Value} {x : Int64} {st : List Value} {h : jv_H} : jv_ev call 5 71 [l0, l1, l2, l3, l4, l5, l6, some (.long x), l8, l9, l10, l11, l12] st h = jv_ev call 5 73 [l0, l1, l2, l3, l4, l5, l6, some (.long x), l8, l9, l10, l11, l12] (.long x :: st) h := je_lload D5_71 rfl rfl
theorem D5_73 : decode (jt_code 5) 73 = .ok (.lstore 11, 2) := by decide +kernel
theorem E5_73 {call : jv_F} {l0 l1 l2 l3 l4 l5 l6 l7 l8 l9 l10 l11 l12 : Option Value} {x : Int64} {st : List Value} {h : jv_H} (hk : ¬ jv_is2 (some l10) = true) : jv_ev call 5 73 [l0, l1, l2, l3, l4, l5, l6, l7, l8, l9, l10, l11, l12] (.long x :: st) h = jv_ev call 5 75 [l0, l1, l2, l3, l4, l5, l6, l7, l8, l9, l10, some (.long x), none] st h := je_lstore D5_73 rfl (Nat.le_of_ble_eq_true rfl) (by show jv_st2 _ 11 _ = _; simp only [jv_st2, jv_kill, List.getElem?_cons_succ, List.getElem?_cons_zero, hk, if_false]; rfl)
theorem D5_75 : decode (jt_code 5) 75 = .ok (.aload_n 0, 1) := by decide +kernel
theorem E5_75 {call : jv_F} {l1 l2 l3 l4 l5 l6 l7 l8 l9 l10 l11 l12 : Option Value} {a : Nat} {st : List Value} {h : jv_H} : jv_ev call 5 75 [some (.ref a), l1, l2, l3, l4, l5, l6, l7, l8, l9, l10, l11, l12] st h = jv_ev call 5 76 [some (.ref a), l1, l2, l3, l4, l5, l6, l7, l8, l9, l10, l11, l12] (.ref a :: st) h := je_aload_n (r := some a) D5_75 rfl rfl
theorem D5_76 : decode (jt_code 5) 76 = .ok (.getfield 17, 3) := by decide +kernel
theorem E5_76 {call : jv_F} {l0 l1 l2 l3 l4 l5 l6 l7 l8 l9 l10 l11 l12 : Option Value}  {st : List Value} {m : Nat} {I : Nat → Int32} {A : Nat → Nat → Int32} {L : Nat → Nat → Int64} {rest : Nat → Option jv_C} {z : Nat × Nat} : jv_ev call 5 76 [l0, l1, l2, l3, l4, l5, l6, l7, l8, l9, l10, l11, l12] (.ref m :: st) (jm_H m I A L rest z) = jv_ev call 5 79 [l0, l1, l2, l3, l4, l5, l6, l7, l8, l9, l10, l11, l12] (.ref (m + 2) :: st) (jm_H m I A L rest z) := je_get D5_76 rfl (by decide) jm_g3
theorem D5_79 : decode (jt_code 5) 79 = .ok (.aload_n 0, 1) := by decide +kernel
theorem E5_79 {call : jv_F} {l1 l2 l3 l4 l5 l6 l7 l8 l9 l10 l11 l12 : Option Value} {a : Nat} {st : List Value} {h : jv_H} : jv_ev call 5 79 [some (.ref a), l1, l2, l3, l4, l5, l6, l7, l8, l9, l10, l11, l12] st h = jv_ev call 5 80 [some (.ref a), l1, l2, l3, l4, l5, l6, l7, l8, l9, l10, l11, l12] (.ref a :: st) h := je_aload_n (r := some a) D5_79 rfl rfl
theorem D5_80 : decode (jt_code 5) 80 = .ok (.getfield 107, 3) := by decide +kernel
theorem E5_80 {call : jv_F} {l0 l1 l2 l3 l4 l5 l6 l7 l8 l9 l10 l11 l12 : Option Value}  {st : List Value} {m : Nat} {I : Nat → Int32} {A : Nat → Nat → Int32} {L : Nat → Nat → Int64} {rest : Nat → Option jv_C} {z : Nat × Nat} : jv_ev call 5 80 [l0, l1, l2, l3, l4, l5, l6, l7, l8, l9, l10, l11, l12] (.ref m :: st) (jm_H m I A L rest z) = jv_ev call 5 83 [l0, l1, l2, l3, l4, l5, l6, l7, l8, l9, l10, l11, l12] (.int (I 4) :: st) (jm_H m I A L rest z) := je_get D5_80 rfl (by decide) jm_g4
theorem D5_83 : decode (jt_code 5) 83 = .ok (.lload 11, 2) := by decide +kernel
theorem E5_83 {call : jv_F} {l0 l1 l2 l3 l4 l5 l6 l7 l8 l9 l10 l12 : Option Value} {x : Int64} {st : List Value} {h : jv_H} : jv_ev call 5 83 [l0, l1, l2, l3, l4, l5, l6, l7, l8, l9, l10, some (.long x), l12] st h = jv_ev call 5 85 [l0, l1, l2, l3, l4, l5, l6, l7, l8, l9, l10, some (.long x), l12] (.long x :: st) h := je_lload D5_83 rfl rfl
theorem D5_85 : decode (jt_code 5) 85 = .ok (.bipush 56, 2) := by decide +kernel
theorem E5_85 {call : jv_F} {l0 l1 l2 l3 l4 l5 l6 l7 l8 l9 l10 l11 l12 : Option Value}  {st : List Value} {h : jv_H} : jv_ev call 5 85 [l0, l1, l2, l3, l4, l5, l6, l7, l8, l9, l10, l11, l12] st h = jv_ev call 5 87 [l0, l1, l2, l3, l4, l5, l6, l7, l8, l9, l10, l11, l12] (.int (nI 56) :: st) h := je_bipush D5_85 rfl (by decide)
theorem D5_87 : decode (jt_code 5) 87 = .ok (.bipush 8, 2) := by decide +kernel
theorem E5_87 {call : jv_F} {l0 l1 l2 l3 l4 l5 l6 l7 l8 l9 l10 l11 l12 : Option Value}  {st : List Value} {h : jv_H} : jv_ev call 5 87 [l0, l1, l2, l3, l4, l5, l6, l7, l8, l9, l10, l11, l12] st h = jv_ev call 5 89 [l0, l1, l2, l3, l4, l5, l6, l7, l8, l9, l10, l11, l12] (.int (nI 8) :: st) h := je_bipush D5_87 rfl (by decide)
theorem D5_89 : decode (jt_code 5) 89 = .ok (.iload 10, 2) := by decide +kernel
theorem E5_89 {call : jv_F} {l0 l1 l2 l3 l4 l5 l6 l7 l8 l9 l11 l12 : Option Value} {x : Int32} {st : List Value} {h : jv_H} : jv_ev call 5 89 [l0, l1, l2, l3, l4, l5, l6, l7, l8, l9, some (.int x), l11, l12] st h = jv_ev call 5 91 [l0, l1, l2, l3, l4, l5, l6, l7, l8, l9, some (.int x), l11, l12] (.int x :: st) h := je_iload D5_89 rfl rfl
theorem D5_91 : decode (jt_code 5) 91 = .ok (.bipush 8, 2) := by decide +kernel
theorem E5_91 {call : jv_F} {l0 l1 l2 l3 l4 l5 l6 l7 l8 l9 l10 l11 l12 : Option Value}  {st : List Value} {h : jv_H} : jv_ev call 5 91 [l0, l1, l2, l3, l4, l5, l6, l7, l8, l9, l10, l11, l12] st h = jv_ev call 5 93 [l0, l1, l2, l3, l4, l5, l6, l7, l8, l9, l10, l11, l12] (.int (nI 8) :: st) h := je_bipush D5_91 rfl (by decide)
theorem D5_93 : decode (jt_code 5) 93 = .ok (.irem, 1) := by decide +kernel
theorem E5_93 {call : jv_F} {l0 l1 l2 l3 l4 l5 l6 l7 l8 l9 l10 l11 l12 : Option Value} {x y : Int32} {st : List Value} {h : jv_H} (hy : ¬ y = 0) : jv_ev call 5 93 [l0, l1, l2, l3, l4, l5, l6, l7, l8, l9, l10, l11, l12] (.int y :: .int x :: st) h = jv_ev call 5 94 [l0, l1, l2, l3, l4, l5, l6, l7, l8, l9, l10, l11, l12] (.int (x - x / y * y) :: st) h := je_irem D5_93 rfl hy
theorem D5_94 : decode (jt_code 5) 94 = .ok (.imul, 1) := by decide +kernel
theorem E5_94 {call : jv_F} {l0 l1 l2 l3 l4 l5 l6 l7 l8 l9 l10 l11 l12 : Option Value} {x y : Int32} {st : List Value} {h : jv_H} : jv_ev call 5 94 [l0, l1, l2, l3, l4, l5, l6, l7, l8, l9, l10, l11, l12] (.int y :: .int x :: st) h = jv_ev call 5 95 [l0, l1, l2, l3, l4, l5, l6, l7, l8, l9, l10, l11, l12] (.int (x * y) :: st) h := je_b2 (f := fun x y => x * y) D5_94 rfl (fun _ => rfl)
theorem D5_95 : decode (jt_code 5) 95 = .ok (.isub, 1) := by decide +kernel
theorem E5_95 {call : jv_F} {l0 l1 l2 l3 l4 l5 l6 l7 l8 l9 l10 l11 l12 : Option Value} {x y : Int32} {st : List Value} {h : jv_H} : jv_ev call 5 95 [l0, l1, l2, l3, l4, l5, l6, l7, l8, l9, l10, l11, l12] (.int y :: .int x :: st) h = jv_ev call 5 96 [l0, l1, l2, l3, l4, l5, l6, l7, l8, l9, l10, l11, l12] (.int (x - y) :: st) h := je_b2 (f := fun x y => x - y) D5_95 rfl (fun _ => rfl)
theorem D5_96 : decode (jt_code 5) 96 = .ok (.lshr, 1) := by decide +kernel
theorem E5_96 {call : jv_F} {l0 l1 l2 l3 l4 l5 l6 l7 l8 l9 l10 l11 l12 : Option Value} {x : Int64} {y : Int32} {st : List Value} {h : jv_H} : jv_ev call 5 96 [l0, l1, l2, l3, l4, l5, l6, l7, l8, l9, l10, l11, l12] (.int y :: .long x :: st) h = jv_ev call 5 97 [l0, l1, l2, l3, l4, l5, l6, l7, l8, l9, l10, l11, l12] (.long (x >>> (y.toInt64 &&& 63)) :: st) h := je_lshr D5_96 rfl
theorem D5_97 : decode (jt_code 5) 97 = .ok (.l2i, 1) := by decide +kernel
theorem E5_97 {call : jv_F} {l0 l1 l2 l3 l4 l5 l6 l7 l8 l9 l10 l11 l12 : Option Value} {x : Int64} {st : List Value} {h : jv_H} : jv_ev call 5 97 [l0, l1, l2, l3, l4, l5, l6, l7, l8, l9, l10, l11, l12] (.long x :: st) h = jv_ev call 5 98 [l0, l1, l2, l3, l4, l5, l6, l7, l8, l9, l10, l11, l12] (.int x.toInt32 :: st) h := je_l2i D5_97 rfl
theorem D5_98 : decode (jt_code 5) 98 = .ok (.sipush 255, 3) := by decide +kernel
theorem E5_98 {call : jv_F} {l0 l1 l2 l3 l4 l5 l6 l7 l8 l9 l10 l11 l12 : Option Value}  {st : List Value} {h : jv_H} : jv_ev call 5 98 [l0, l1, l2, l3, l4, l5, l6, l7, l8, l9, l10, l11, l12] st h = jv_ev call 5 101 [l0, l1, l2, l3, l4, l5, l6, l7, l8, l9, l10, l11, l12] (.int (nI 255) :: st) h := je_sipush D5_98 rfl (by decide)
theorem D5_101 : decode (jt_code 5) 101 = .ok (.iand, 1) := by decide +kernel
theorem E5_101 {call : jv_F} {l0 l1 l2 l3 l4 l5 l6 l7 l8 l9 l10 l11 l12 : Option Value} {x y : Int32} {st : List Value} {h : jv_H} : jv_ev call 5 101 [l0, l1, l2, l3, l4, l5, l6, l7, l8, l9, l10, l11, l12] (.int y :: .int x :: st) h = jv_ev call 5 102 [l0, l1, l2, l3, l4, l5, l6, l7, l8, l9, l10, l11, l12] (.int (x &&& y) :: st) h := je_b2 (f := fun x y => x &&& y) D5_101 rfl (fun _ => rfl)
theorem D5_102 : decode (jt_code 5) 102 = .ok (.iastore, 1) := by decide +kernel
theorem E5_102 {call : jv_F} {l0 l1 l2 l3 l4 l5 l6 l7 l8 l9 l10 l11 l12 : Option Value} {i : Nat} {v : Int32} {st : List Value} {m : Nat} {I : Nat → Int32} {A : Nat → Nat → Int32} {L : Nat → Nat → Int64} {rest : Nat → Option jv_C} {z : Nat × Nat} (hi : i < 2000) : jv_ev call 5 102 [l0, l1, l2, l3, l4, l5, l6, l7, l8, l9, l10, l11, l12] (.int v :: .int (nI i) :: .ref (m + 2) :: st) (jm_H m I A L rest z) = jv_ev call 5 103 [l0, l1, l2, l3, l4, l5, l6, l7, l8, l9, l10, l11, l12] st (jm_H m I (va_up A 3 (upd (A 3) i v)) L rest z) := je_iast D5_102 rfl (jm_s3 hi)
theorem D5_103 : decode (jt_code 5) 103 = .ok (.aload_n 0, 1) := by decide +kernel
theorem E5_103 {call : jv_F} {l1 l2 l3 l4 l5 l6 l7 l8 l9 l10 l11 l12 : Option Value} {a : Nat} {st : List Value} {h : jv_H} : jv_ev call 5 103 [some (.ref a), l1, l2, l3, l4, l5, l6, l7, l8, l9, l10, l11, l12] st h = jv_ev call 5 104 [some (.ref a), l1, l2, l3, l4, l5, l6, l7, l8, l9, l10, l11, l12] (.ref a :: st) h := je_aload_n (r := some a) D5_103 rfl rfl
theorem D5_104 : decode (jt_code 5) 104 = .ok (.dup, 1) := by decide +kernel
theorem E5_104 {call : jv_F} {l0 l1 l2 l3 l4 l5 l6 l7 l8 l9 l10 l11 l12 : Option Value} {a : Nat} {st : List Value} {h : jv_H} : jv_ev call 5 104 [l0, l1, l2, l3, l4, l5, l6, l7, l8, l9, l10, l11, l12] (.ref a :: st) h = jv_ev call 5 105 [l0, l1, l2, l3, l4, l5, l6, l7, l8, l9, l10, l11, l12] (.ref a :: .ref a :: st) h := je_dup D5_104 rfl rfl
theorem E5_104i {call : jv_F} {l0 l1 l2 l3 l4 l5 l6 l7 l8 l9 l10 l11 l12 : Option Value} {x : Int32} {st : List Value} {h : jv_H} : jv_ev call 5 104 [l0, l1, l2, l3, l4, l5, l6, l7, l8, l9, l10, l11, l12] (.int x :: st) h = jv_ev call 5 105 [l0, l1, l2, l3, l4, l5, l6, l7, l8, l9, l10, l11, l12] (.int x :: .int x :: st) h := je_dup D5_104 rfl rfl
theorem D5_105 : decode (jt_code 5) 105 = .ok (.getfield 107, 3) := by decide +kernel
theorem E5_105 {call : jv_F} {l0 l1 l2 l3 l4 l5 l6 l7 l8 l9 l10 l11 l12 : Option Value}  {st : List Value} {m : Nat} {I : Nat → Int32} {A : Nat → Nat → Int32} {L : Nat → Nat → Int64} {rest : Nat → Option jv_C} {z : Nat × Nat} : jv_ev call 5 105 [l0, l1, l2, l3, l4, l5, l6, l7, l8, l9, l10, l11, l12] (.ref m :: st) (jm_H m I A L rest z) = jv_ev call 5 108 [l0, l1, l2, l3, l4, l5, l6, l7, l8, l9, l10, l11, l12] (.int (I 4) :: st) (jm_H m I A L rest z) := je_get D5_105 rfl (by decide) jm_g4
theorem D5_108 : decode (jt_code 5) 108 = .ok (.iconst 1, 1) := by decide +kernel
theorem E5_108 {call : jv_F} {l0 l1 l2 l3 l4 l5 l6 l7 l8 l9 l10 l11 l12 : Option Value}  {st : List Value} {h : jv_H} : jv_ev call 5 108 [l0, l1, l2, l3, l4, l5, l6, l7, l8, l9, l10, l11, l12] st h = jv_ev call 5 109 [l0, l1, l2, l3, l4, l5, l6, l7, l8, l9, l10, l11, l12] (.int (nI 1) :: st) h := je_iconst D5_108 rfl (by decide)
theorem D5_109 : decode (jt_code 5) 109 = .ok (.iadd, 1) := by decide +kernel
theorem E5_109 {call : jv_F} {l0 l1 l2 l3 l4 l5 l6 l7 l8 l9 l10 l11 l12 : Option Value} {x y : Int32} {st : List Value} {h : jv_H} : jv_ev call 5 109 [l0, l1, l2, l3, l4, l5, l6, l7, l8, l9, l10, l11, l12] (.int y :: .int x :: st) h = jv_ev call 5 110 [l0, l1, l2, l3, l4, l5, l6, l7, l8, l9, l10, l11, l12] (.int (x + y) :: st) h := je_b2 (f := fun x y => x + y) D5_109 rfl (fun _ => rfl)
theorem D5_110 : decode (jt_code 5) 110 = .ok (.putfield 107, 3) := by decide +kernel
theorem E5_110 {call : jv_F} {l0 l1 l2 l3 l4 l5 l6 l7 l8 l9 l10 l11 l12 : Option Value} {v : Int32} {st : List Value} {m : Nat} {I : Nat → Int32} {A : Nat → Nat → Int32} {L : Nat → Nat → Int64} {rest : Nat → Option jv_C} {z : Nat × Nat} : jv_ev call 5 110 [l0, l1, l2, l3, l4, l5, l6, l7, l8, l9, l10, l11, l12] (.int v :: .ref m :: st) (jm_H m I A L rest z) = jv_ev call 5 113 [l0, l1, l2, l3, l4, l5, l6, l7, l8, l9, l10, l11, l12] st (jm_H m (upd I 4 v) A L rest z) := je_put D5_110 rfl (by decide) (by decide) jm_p4
theorem D5_113 : decode (jt_code 5) 113 = .ok (.iinc 10 1, 3) := by decide +kernel
theorem E5_113 {call : jv_F} {l0 l1 l2 l3 l4 l5 l6 l7 l8 l9 l11 l12 : Option Value} {x : Int32} {st : List Value} {h : jv_H} (hk : ¬ jv_is2 (some l9) = true) : jv_ev call 5 113 [l0, l1, l2, l3, l4, l5, l6, l7, l8, l9, some (.int x), l11, l12] st h = jv_ev call 5 116 [l0, l1, l2, l3, l4, l5, l6, l7, l8, l9, some (.int (x + (nI 1))), l11, l12] st h := je_iinc D5_113 rfl rfl (v := x + (nI 1)) (by rfl) (by show jv_st1 _ 10 _ = _; simp only [jv_st1, jv_kill, List.getElem?_cons_succ, List.getElem?_cons_zero, hk, if_false]; rfl)
theorem D5_116 : decode (jt_code 5) 116 = .ok (.goto (-86), 3) := by decide +kernel
theorem E5_116 {call : jv_F} {l0 l1 l2 l3 l4 l5 l6 l7 l8 l9 l10 l11 l12 : Option Value}  {st : List Value} {h : jv_H} : jv_ev call 5 116 [l0, l1, l2, l3, l4, l5, l6, l7, l8, l9, l10, l11, l12] st h = jv_ev call 5 30 [l0, l1, l2, l3, l4, l5, l6, l7, l8, l9, l10, l11, l12] st h := je_goto D5_116 (by decide)
theorem D5_119 : decode (jt_code 5) 119 = .ok (.aload_n 0, 1) := by decide +kernel
theorem E5_119 {call : jv_F} {l1 l2 l3 l4 l5 l6 l7 l8 l9 l10 l11 l12 : Option Value} {a : Nat} {st : List Value} {h : jv_H} : jv_ev call 5 119 [some (.ref a), l1, l2, l3, l4, l5, l6, l7, l8, l9, l10, l11, l12] st h = jv_ev call 5 120 [some (.ref a), l1, l2, l3, l4, l5, l6, l7, l8, l9, l10, l11, l12] (.ref a :: st) h := je_aload_n (r := some a) D5_119 rfl rfl
theorem D5_120 : decode (jt_code 5) 120 = .ok (.getfield 107, 3) := by decide +kernel
theorem E5_120 {call : jv_F} {l0 l1 l2 l3 l4 l5 l6 l7 l8 l9 l10 l11 l12 : Option Value}  {st : List Value} {m : Nat} {I : Nat → Int32} {A : Nat → Nat → Int32} {L : Nat → Nat → Int64} {rest : Nat → Option jv_C} {z : Nat × Nat} : jv_ev call 5 120 [l0, l1, l2, l3, l4, l5, l6, l7, l8, l9, l10, l11, l12] (.ref m :: st) (jm_H m I A L rest z) = jv_ev call 5 123 [l0, l1, l2, l3, l4, l5, l6, l7, l8, l9, l10, l11, l12] (.int (I 4) :: st) (jm_H m I A L rest z) := je_get D5_120 rfl (by decide) jm_g4
theorem D5_123 : decode (jt_code 5) 123 = .ok (.ireturn, 1) := by decide +kernel
theorem E5_123 {call : jv_F} {l0 l1 l2 l3 l4 l5 l6 l7 l8 l9 l10 l11 l12 : Option Value} {v : Int32} {h : jv_H} : jv_ev call 5 123 [l0, l1, l2, l3, l4, l5, l6, l7, l8, l9, l10, l11, l12] [.int v] h = some (some (.int v), h) := je_iret (ty := .int) D5_123 rfl rfl rfl
/-! method 6: DrumMachineModel.job -/
theorem N6 {d : Nat} {b : Nat} {a0 : Int32} {a1 : Int32} {h : jv_H} : jv_run (d + 1) 6 [.ref b, .int a0, .int a1] h = jv_ev (jv_run d) 6 0 [some (.ref b), some (.int a0), some (.int a1), none, none, none, none] [] h := jv_run_eq (Nat.le_of_ble_eq_true rfl) rfl
theorem D6_0 : decode (jt_code 6) 0 = .ok (.aload_n 0, 1) := by decide +kernel
theorem E6_0 {call : jv_F} {l1 l2 l3 l4 l5 l6 : Option Value} {a : Nat} {st : List Value} {h : jv_H} : jv_ev call 6 0 [some (.ref a), l1, l2, l3, l4, l5, l6] st h = jv_ev call 6 1 [some (.ref a), l1, l2, l3, l4, l5, l6] (.ref a :: st) h := je_aload_n (r := some a) D6_0 rfl rfl
theorem D6_1 : decode (jt_code 6) 1 = .ok (.getfield 97, 3) := by decide +kernel
theorem E6_1 {call : jv_F} {l0 l1 l2 l3 l4 l5 l6 : Option Value}  {st : List Value} {m : Nat} {I : Nat → Int32} {A : Nat → Nat → Int32} {L : Nat → Nat → Int64} {rest : Nat → Option jv_C} {z : Nat × Nat} : jv_ev call 6 1 [l0, l1, l2, l3, l4, l5, l6] (.ref m :: st) (jm_H m I A L rest z) = jv_ev call 6 4 [l0, l1, l2, l3, l4, l5, l6] (.int (I 5) :: st) (jm_H m I A L rest z) := je_get D6_1 rfl (by decide) jm_g5
theorem D6_4 : decode (jt_code 6) 4 = .ok (.bipush 12, 2) := by decide +kernel
theorem E6_4 {call : jv_F} {l0 l1 l2 l3 l4 l5 l6 : Option Value}  {st : List Value} {h : jv_H} : jv_ev call 6 4 [l0, l1, l2, l3, l4, l5, l6] st h = jv_ev call 6 6 [l0, l1, l2, l3, l4, l5, l6] (.int (nI 12) :: st) h := je_bipush D6_4 rfl (by decide)
theorem D6_6 : decode (jt_code 6) 6 = .ok (.if_icmp .eq 28, 3) := by decide +kernel
theorem E6_6 {call : jv_F} {l0 l1 l2 l3 l4 l5 l6 : Option Value} {x y : Int32} {st : List Value} {h : jv_H} : jv_ev call 6 6 [l0, l1, l2, l3, l4, l5, l6] (.int y :: .int x :: st) h = if x = y then jv_ev call 6 34 [l0, l1, l2, l3, l4, l5, l6] st h else jv_ev call 6 9 [l0, l1, l2, l3, l4, l5, l6] st h := je_icmp D6_6 (by decide) rfl rfl
theorem D6_9 : decode (jt_code 6) 9 = .ok (.iload_n 1, 1) := by decide +kernel
theorem E6_9 {call : jv_F} {l0 l2 l3 l4 l5 l6 : Option Value} {x : Int32} {st : List Value} {h : jv_H} : jv_ev call 6 9 [l0, some (.int x), l2, l3, l4, l5, l6] st h = jv_ev call 6 10 [l0, some (.int x), l2, l3, l4, l5, l6] (.int x :: st) h := je_iload_n D6_9 rfl rfl
theorem D6_10 : decode (jt_code 6) 10 = .ok (.iconst 1, 1) := by decide +kernel
theorem E6_10 {call : jv_F} {l0 l1 l2 l3 l4 l5 l6 : Option Value}  {st : List Value} {h : jv_H} : jv_ev call 6 10 [l0, l1, l2, l3, l4, l5, l6] st h = jv_ev call 6 11 [l0, l1, l2, l3, l4, l5, l6] (.int (nI 1) :: st) h := je_iconst D6_10 rfl (by decide)
theorem D6_11 : decode (jt_code 6) 11 = .ok (.if_icmp .lt 23, 3) := by decide +kernel
theorem E6_11 {call : jv_F} {l0 l1 l2 l3 l4 l5 l6 : Option Value} {x y : Int32} {st : List Value} {h : jv_H} : jv_ev call 6 11 [l0, l1, l2, l3, l4, l5, l6] (.int y :: .int x :: st) h = if x < y then jv_ev call 6 34 [l0, l1, l2, l3, l4, l5, l6] st h else jv_ev call 6 14 [l0, l1, l2, l3, l4, l5, l6] st h := je_icmp D6_11 (by decide) rfl rfl
theorem D6_14 : decode (jt_code 6) 14 = .ok (.iload_n 1, 1) := by decide +kernel
theorem E6_14 {call : jv_F} {l0 l2 l3 l4 l5 l6 : Option Value} {x : Int32} {st : List Value} {h : jv_H} : jv_ev call 6 14 [l0, some (.int x), l2, l3, l4, l5, l6] st h = jv_ev call 6 15 [l0, some (.int x), l2, l3, l4, l5, l6] (.int x :: st) h := je_iload_n D6_14 rfl rfl
theorem D6_15 : decode (jt_code 6) 15 = .ok (.sipush 10000, 3) := by decide +kernel
theorem E6_15 {call : jv_F} {l0 l1 l2 l3 l4 l5 l6 : Option Value}  {st : List Value} {h : jv_H} : jv_ev call 6 15 [l0, l1, l2, l3, l4, l5, l6] st h = jv_ev call 6 18 [l0, l1, l2, l3, l4, l5, l6] (.int (nI 10000) :: st) h := je_sipush D6_15 rfl (by decide)
theorem D6_18 : decode (jt_code 6) 18 = .ok (.if_icmp .gt 16, 3) := by decide +kernel
theorem E6_18 {call : jv_F} {l0 l1 l2 l3 l4 l5 l6 : Option Value} {x y : Int32} {st : List Value} {h : jv_H} : jv_ev call 6 18 [l0, l1, l2, l3, l4, l5, l6] (.int y :: .int x :: st) h = if y < x then jv_ev call 6 34 [l0, l1, l2, l3, l4, l5, l6] st h else jv_ev call 6 21 [l0, l1, l2, l3, l4, l5, l6] st h := je_icmp D6_18 (by decide) rfl rfl
theorem D6_21 : decode (jt_code 6) 21 = .ok (.iload_n 2, 1) := by decide +kernel
theorem E6_21 {call : jv_F} {l0 l1 l3 l4 l5 l6 : Option Value} {x : Int32} {st : List Value} {h : jv_H} : jv_ev call 6 21 [l0, l1, some (.int x), l3, l4, l5, l6] st h = jv_ev call 6 22 [l0, l1, some (.int x), l3, l4, l5, l6] (.int x :: st) h := je_iload_n D6_21 rfl rfl
theorem D6_22 : decode (jt_code 6) 22 = .ok (.iconst 1, 1) := by decide +kernel
theorem E6_22 {call : jv_F} {l0 l1 l2 l3 l4 l5 l6 : Option Value}  {st : List Value} {h : jv_H} : jv_ev call 6 22 [l0, l1, l2, l3, l4, l5, l6] st h = jv_ev call 6 23 [l0, l1, l2, l3, l4, l5, l6] (.int (nI 1) :: st) h := je_iconst D6_22 rfl (by decide)
theorem D6_23 : decode (jt_code 6) 23 = .ok (.if_icmp .lt 11, 3) := by decide +kernel
theorem E6_23 {call : jv_F} {l0 l1 l2 l3 l4 l5 l6 : Option Value} {x y : Int32} {st : List Value} {h : jv_H} : jv_ev call 6 23 [l0, l1, l2, l3, l4, l5, l6] (.int y :: .int x :: st) h = if x < y then jv_ev call 6 34 [l0, l1, l2, l3, l4, l5, l6] st h else jv_ev call 6 26 [l0, l1, l2, l3, l4, l5, l6] st h := je_icmp D6_23 (by decide) rfl rfl
theorem D6_26 : decode (jt_code 6) 26 = .ok (.iload_n 2, 1) := by decide +kernel
theorem E6_26 {call : jv_F} {l0 l1 l3 l4 l5 l6 : Option Value} {x : Int32} {st : List Value} {h : jv_H} : jv_ev call 6 26 [l0, l1, some (.int x), l3, l4, l5, l6] st h = jv_ev call 6 27 [l0, l1, some (.int x), l3, l4, l5, l6] (.int x :: st) h := je_iload_n D6_26 rfl rfl
theorem D6_27 : decode (jt_code 6) 27 = .ok (.aload_n 0, 1) := by decide +kernel
theorem E6_27 {call : jv_F} {l1 l2 l3 l4 l5 l6 : Option Value} {a : Nat} {st : List Value} {h : jv_H} : jv_ev call 6 27 [some (.ref a), l1, l2, l3, l4, l5, l6] st h = jv_ev call 6 28 [some (.ref a), l1, l2, l3, l4, l5, l6] (.ref a :: st) h := je_aload_n (r := some a) D6_27 rfl rfl
theorem D6_28 : decode (jt_code 6) 28 = .ok (.getfield 100, 3) := by decide +kernel
theorem E6_28 {call : jv_F} {l0 l1 l2 l3 l4 l5 l6 : Option Value}  {st : List Value} {m : Nat} {I : Nat → Int32} {A : Nat → Nat → Int32} {L : Nat → Nat → Int64} {rest : Nat → Option jv_C} {z : Nat × Nat} : jv_ev call 6 28 [l0, l1, l2, l3, l4, l5, l6] (.ref m :: st) (jm_H m I A L rest z) = jv_ev call 6 31 [l0, l1, l2, l3, l4, l5, l6] (.int (I 2) :: st) (jm_H m I A L rest z) := je_get D6_28 rfl (by decide) jm_g2
theorem D6_31 : decode (jt_code 6) 31 = .ok (.if_icmp .le 5, 3) := by decide +kernel
theorem E6_31 {call : jv_F} {l0 l1 l2 l3 l4 l5 l6 : Option Value} {x y : Int32} {st : List Value} {h : jv_H} : jv_ev call 6 31 [l0, l1, l2, l3, l4, l5, l6] (.int y :: .int x :: st) h = if x ≤ y then jv_ev call 6 36 [l0, l1, l2, l3, l4, l5, l6] st h else jv_ev call 6 34 [l0, l1, l2, l3, l4, l5, l6] st h := je_icmp D6_31 (by decide) rfl rfl
theorem D6_34 : decode (jt_code 6) 34 = .ok (.iconst (-1), 1) := by decide +kernel
theorem E6_34 {call : jv_F} {l0 l1 l2 l3 l4 l5 l6 : Option Value}  {st : List Value} {h : jv_H} : jv_ev call 6 34 [l0, l1, l2, l3, l4, l5, l6] st h = jv_ev call 6 35 [l0, l1, l2, l3, l4, l5, l6] (.int (-1) :: st) h := je_iconst D6_34 rfl (by decide)
theorem D6_35 : decode (jt_code 6) 35 = .ok (.ireturn, 1) := by decide +kernel
theorem E6_35 {call : jv_F} {l0 l1 l2 l3 l4 l5 l6 : Option Value} {v : Int32} {h : jv_H} : jv_ev call 6 35 [l0, l1, l2, l3, l4, l5, l6] [.int v] h = some (some (.int v), h) := je_iret (ty := .int) D6_35 rfl rfl rfl
theorem D6_36 : decode (jt_code 6) 36 = .ok (.iload_n 2, 1) := by decide +kernel
theorem E6_36 {call : jv_F} {l0 l1 l3 l4 l5 l6 : Option Value} {x : Int32} {st : List Value} {h : jv_H} : jv_ev call 6 36 [l0, l1, some (.int x), l3, l4, l5, l6] st h = jv_ev call 6 37 [l0, l1, some (.int x), l3, l4, l5, l6] (.int x :: st) h := je_iload_n D6_36 rfl rfl
theorem D6_37 : decode (jt_code 6) 37 = .ok (.bipush 15, 2) := by decide +kernel
theorem E6_37 {call : jv_F} {l0 l1 l2 l3 l4 l5 l6 : Option Value}  {st : List Value} {h : jv_H} : jv_ev call 6 37 [l0, l1, l2, l3, l4, l5, l6] st h = jv_ev call 6 39 [l0, l1, l2, l3, l4, l5, l6] (.int (nI 15) :: st) h := je_bipush D6_37 rfl (by decide)
theorem D6_39 : decode (jt_code 6) 39 = .ok (.iadd, 1) := by decide +kernel
theorem E6_39 {call : jv_F} {l0 l1 l2 l3 l4 l5 l6 : Option Value} {x y : Int32} {st : List Value} {h : jv_H} : jv_ev call 6 39 [l0, l1, l2, l3, l4, l5, l6] (.int y :: .int x :: st) h = jv_ev call 6 40 [l0, l1, l2, l3, l4, l5, l6] (.int (x + y) :: st) h := je_b2 (f := fun x y => x + y) D6_39 rfl (fun _ => rfl)
theorem D6_40 : decode (jt_code 6) 40 = .ok (.bipush 16, 2) := by decide +kernel
theorem E6_40 {call : jv_F} {l0 l1 l2 l3 l4 l5 l6 : Option Value}  {st : List Value} {h : jv_H} : jv_ev call 6 40 [l0, l1, l2, l3, l4, l5, l6] st h = jv_ev call 6 42 [l0, l1, l2, l3, l4, l5, l6] (.int (nI 16) :: st) h := je_bipush D6_40 rfl (by decide)
theorem D6_42 : decode (jt_code 6) 42 = .ok (.idiv, 1) := by decide +kernel
theorem E6_42 {call : jv_F} {l0 l1 l2 l3 l4 l5 l6 : Option Value} {x y : Int32} {st : List Value} {h : jv_H} (hy : ¬ y = 0) : jv_ev call 6 42 [l0, l1, l2, l3, l4, l5, l6] (.int y :: .int x :: st) h = jv_ev call 6 43 [l0, l1, l2, l3, l4, l5, l6] (.int (x / y) :: st) h := je_idiv D6_42 rfl hy
theorem D6_43 : decode (jt_code 6) 43 = .ok (.istore_n 3, 1) := by decide +kernel
theorem E6_43 {call : jv_F} {l0 l1 l2 l3 l4 l5 l6 : Option Value} {x : Int32} {st : List Value} {h : jv_H} (hk : ¬ jv_is2 (some l2) = true) : jv_ev call 6 43 [l0, l1, l2, l3, l4, l5, l6] (.int x :: st) h = jv_ev call 6 44 [l0, l1, l2, some (.int x), l4, l5, l6] st h := je_istore_n D6_43 rfl (Nat.le_of_ble_eq_true rfl) (by show jv_st1 _ 3 _ = _; simp only [jv_st1, jv_kill, List.getElem?_cons_succ, List.getElem?_cons_zero, hk, if_false]; rfl)
theorem D6_44 : decode (jt_code 6) 44 = .ok (.aload_n 0, 1) := by decide +kernel
theorem E6_44 {call : jv_F} {l1 l2 l3 l4 l5 l6 : Option Value} {a : Nat} {st : List Value} {h : jv_H} : jv_ev call 6 44 [some (.ref a), l1, l2, l3, l4, l5, l6] st h = jv_ev call 6 45 [some (.ref a), l1, l2, l3, l4, l5, l6] (.ref a :: st) h := je_aload_n (r := some a) D6_44 rfl rfl
theorem D6_45 : decode (jt_code 6) 45 = .ok (.getfield 110, 3) := by decide +kernel
theorem E6_45 {call : jv_F} {l0 l1 l2 l3 l4 l5 l6 : Option Value}  {st : List Value} {m : Nat} {I : Nat → Int32} {A : Nat → Nat → Int32} {L : Nat → Nat → Int64} {rest : Nat → Option jv_C} {z : Nat × Nat} : jv_ev call 6 45 [l0, l1, l2, l3, l4, l5, l6] (.ref m :: st) (jm_H m I A L rest z) = jv_ev call 6 48 [l0, l1, l2, l3, l4, l5, l6] (.int (I 22) :: st) (jm_H m I A L rest z) := je_get D6_45 rfl (by decide) jm_g22
theorem D6_48 : decode (jt_code 6) 48 = .ok (.iload_n 3, 1) := by decide +kernel
theorem E6_48 {call : jv_F} {l0 l1 l2 l4 l5 l6 : Option Value} {x : Int32} {st : List Value} {h : jv_H} : jv_ev call 6 48 [l0, l1, l2, some (.int x), l4, l5, l6] st h = jv_ev call 6 49 [l0, l1, l2, some (.int x), l4, l5, l6] (.int x :: st) h := je_iload_n D6_48 rfl rfl
theorem D6_49 : decode (jt_code 6) 49 = .ok (.iadd, 1) := by decide +kernel
theorem E6_49 {call : jv_F} {l0 l1 l2 l3 l4 l5 l6 : Option Value} {x y : Int32} {st : List Value} {h : jv_H} : jv_ev call 6 49 [l0, l1, l2, l3, l4, l5, l6] (.int y :: .int x :: st) h = jv_ev call 6 50 [l0, l1, l2, l3, l4, l5, l6] (.int (x + y) :: st) h := je_b2 (f := fun x y => x + y) D6_49 rfl (fun _ => rfl)
theorem D6_50 : decode (jt_code 6) 50 = .ok (.bipush 64, 2) := by decide +kernel
theorem E6_50 {call : jv_F} {l0 l1 l2 l3 l4 l5 l6 : Option Value}  {st : List Value} {h : jv_H} : jv_ev call 6 50 [l0, l1, l2, l3, l4, l5, l6] st h = jv_ev call 6 52 [l0, l1, l2, l3, l4, l5, l6] (.int (nI 64) :: st) h := je_bipush D6_50 rfl (by decide)
theorem D6_52 : decode (jt_code 6) 52 = .ok (.if_icmp .le 5, 3) := by decide +kernel
theorem E6_52 {call : jv_F} {l0 l1 l2 l3 l4 l5 l6 : Option Value} {x y : Int32} {st : List Value} {h : jv_H} : jv_ev call 6 52 [l0, l1, l2, l3, l4, l5, l6] (.int y :: .int x :: st) h = if x ≤ y then jv_ev call 6 57 [l0, l1, l2, l3, l4, l5, l6] st h else jv_ev call 6 55 [l0, l1, l2, l3, l4, l5, l6] st h := je_icmp D6_52 (by decide) rfl rfl
theorem D6_55 : decode (jt_code 6) 55 = .ok (.iconst (-1), 1) := by decide +kernel
theorem E6_55 {call : jv_F} {l0 l1 l2 l3 l4 l5 l6 : Option Value}  {st : List Value} {h : jv_H} : jv_ev call 6 55 [l0, l1, l2, l3, l4, l5, l6] st h = jv_ev call 6 56 [l0, l1, l2, l3, l4, l5, l6] (.int (-1) :: st) h := je_iconst D6_55 rfl (by decide)
theorem D6_56 : decode (jt_code 6) 56 = .ok (.ireturn, 1) := by decide +kernel
theorem E6_56 {call : jv_F} {l0 l1 l2 l3 l4 l5 l6 : Option Value} {v : Int32} {h : jv_H} : jv_ev call 6 56 [l0, l1, l2, l3, l4, l5, l6] [.int v] h = some (some (.int v), h) := je_iret (ty := .int) D6_56 rfl rfl rfl
theorem D6_57 : decode (jt_code 6) 57 = .ok (.aload_n 0, 1) := by decide +kernel
theorem E6_57 {call : jv_F} {l1 l2 l3 l4 l5 l6 : Option Value} {a : Nat} {st : List Value} {h : jv_H} : jv_ev call 6 57 [some (.ref a), l1, l2, l3, l4, l5, l6] st h = jv_ev call 6 58 [some (.ref a), l1, l2, l3, l4, l5, l6] (.ref a :: st) h := je_aload_n (r := some a) D6_57 rfl rfl
theorem D6_58 : decode (jt_code 6) 58 = .ok (.getfield 97, 3) := by decide +kernel
theorem E6_58 {call : jv_F} {l0 l1 l2 l3 l4 l5 l6 : Option Value}  {st : List Value} {m : Nat} {I : Nat → Int32} {A : Nat → Nat → Int32} {L : Nat → Nat → Int64} {rest : Nat → Option jv_C} {z : Nat × Nat} : jv_ev call 6 58 [l0, l1, l2, l3, l4, l5, l6] (.ref m :: st) (jm_H m I A L rest z) = jv_ev call 6 61 [l0, l1, l2, l3, l4, l5, l6] (.int (I 5) :: st) (jm_H m I A L rest z) := je_get D6_58 rfl (by decide) jm_g5
theorem D6_61 : decode (jt_code 6) 61 = .ok (.istore 4, 2) := by decide +kernel
theorem E6_61 {call : jv_F} {l0 l1 l2 l3 l4 l5 l6 : Option Value} {x : Int32} {st : List Value} {h : jv_H} (hk : ¬ jv_is2 (some l3) = true) : jv_ev call 6 61 [l0, l1, l2, l3, l4, l5, l6] (.int x :: st) h = jv_ev call 6 63 [l0, l1, l2, l3, some (.int x), l5, l6] st h := je_istore D6_61 rfl (Nat.le_of_ble_eq_true rfl) (by show jv_st1 _ 4 _ = _; simp only [jv_st1, jv_kill, List.getElem?_cons_succ, List.getElem?_cons_zero, hk, if_false]; rfl)
theorem D6_63 : decode (jt_code 6) 63 = .ok (.aload_n 0, 1) := by decide +kernel
theorem E6_63 {call : jv_F} {l1 l2 l3 l4 l5 l6 : Option Value} {a : Nat} {st : List Value} {h : jv_H} : jv_ev call 6 63 [some (.ref a), l1, l2, l3, l4, l5, l6] st h = jv_ev call 6 64 [some (.ref a), l1, l2, l3, l4, l5, l6] (.ref a :: st) h := je_aload_n (r := some a) D6_63 rfl rfl
theorem D6_64 : decode (jt_code 6) 64 = .ok (.dup, 1) := by decide +kernel
theorem E6_64 {call : jv_F} {l0 l1 l2 l3 l4 l5 l6 : Option Value} {a : Nat} {st : List Value} {h : jv_H} : jv_ev call 6 64 [l0, l1, l2, l3, l4, l5, l6] (.ref a :: st) h = jv_ev call 6 65 [l0, l1, l2, l3, l4, l5, l6] (.ref a :: .ref a :: st) h := je_dup D6_64 rfl rfl
theorem E6_64i {call : jv_F} {l0 l1 l2 l3 l4 l5 l6 : Option Value} {x : Int32} {st : List Value} {h : jv_H} : jv_ev call 6 64 [l0, l1, l2, l3, l4, l5, l6] (.int x :: st) h = jv_ev call 6 65 [l0, l1, l2, l3, l4, l5, l6] (.int x :: .int x :: st) h := je_dup D6_64 rfl rfl
theorem D6_65 : decode (jt_code 6) 65 = .ok (.getfield 97, 3) := by decide +kernel
theorem E6_65 {call : jv_F} {l0 l1 l2 l3 l4 l5 l6 : Option Value}  {st : List Value} {m : Nat} {I : Nat → Int32} {A : Nat → Nat → Int32} {L : Nat → Nat → Int64} {rest : Nat → Option jv_C} {z : Nat × Nat} : jv_ev call 6 65 [l0, l1, l2, l3, l4, l5, l6] (.ref m :: st) (jm_H m I A L rest z) = jv_ev call 6 68 [l0, l1, l2, l3, l4, l5, l6] (.int (I 5) :: st) (jm_H m I A L rest z) := je_get D6_65 rfl (by decide) jm_g5
theorem D6_68 : decode (jt_code 6) 68 = .ok (.iconst 1, 1) := by decide +kernel
theorem E6_68 {call : jv_F} {l0 l1 l2 l3 l4 l5 l6 : Option Value}  {st : List Value} {h : jv_H} : jv_ev call 6 68 [l0, l1, l2, l3, l4, l5, l6] st h = jv_ev call 6 69 [l0, l1, l2, l3, l4, l5, l6] (.int (nI 1) :: st) h := je_iconst D6_68 rfl (by decide)
theorem D6_69 : decode (jt_code 6) 69 = .ok (.iadd, 1) := by decide +kernel
theorem E6_69 {call : jv_F} {l0 l1 l2 l3 l4 l5 l6 : Option Value} {x y : Int32} {st : List Value} {h : jv_H} : jv_ev call 6 69 [l0, l1, l2, l3, l4, l5, l6] (.int y :: .int x :: st) h = jv_ev call 6 70 [l0, l1, l2, l3, l4, l5, l6] (.int (x + y) :: st) h := je_b2 (f := fun x y => x + y) D6_69 rfl (fun _ => rfl)
theorem D6_70 : decode (jt_code 6) 70 = .ok (.putfield 97, 3) := by decide +kernel
theorem E6_70 {call : jv_F} {l0 l1 l2 l3 l4 l5 l6 : Option Value} {v : Int32} {st : List Value} {m : Nat} {I : Nat → Int32} {A : Nat → Nat → Int32} {L : Nat → Nat → Int64} {rest : Nat → Option jv_C} {z : Nat × Nat} : jv_ev call 6 70 [l0, l1, l2, l3, l4, l5, l6] (.int v :: .ref m :: st) (jm_H m I A L rest z) = jv_ev call 6 73 [l0, l1, l2, l3, l4, l5, l6] st (jm_H m (upd I 5 v) A L rest z) := je_put D6_70 rfl (by decide) (by decide) jm_p5
theorem D6_73 : decode (jt_code 6) 73 = .ok (.aload_n 0, 1) := by decide +kernel
theorem E6_73 {call : jv_F} {l1 l2 l3 l4 l5 l6 : Option Value} {a : Nat} {st : List Value} {h : jv_H} : jv_ev call 6 73 [some (.ref a), l1, l2, l3, l4, l5, l6] st h = jv_ev call 6 74 [some (.ref a), l1, l2, l3, l4, l5, l6] (.ref a :: st) h := je_aload_n (r := some a) D6_73 rfl rfl
theorem D6_74 : decode (jt_code 6) 74 = .ok (.getfield 21, 3) := by decide +kernel
theorem E6_74 {call : jv_F} {l0 l1 l2 l3 l4 l5 l6 : Option Value}  {st : List Value} {m : Nat} {I : Nat → Int32} {A : Nat → Nat → Int32} {L : Nat → Nat → Int64} {rest : Nat → Option jv_C} {z : Nat × Nat} : jv_ev call 6 74 [l0, l1, l2, l3, l4, l5, l6] (.ref m :: st) (jm_H m I A L rest z) = jv_ev call 6 77 [l0, l1, l2, l3, l4, l5, l6] (.ref (m + 3) :: st) (jm_H m I A L rest z) := je_get D6_74 rfl (by decide) jm_g6
theorem D6_77 : decode (jt_code 6) 77 = .ok (.iload 4, 2) := by decide +kernel
theorem E6_77 {call : jv_F} {l0 l1 l2 l3 l5 l6 : Option Value} {x : Int32} {st : List Value} {h : jv_H} : jv_ev call 6 77 [l0, l1, l2, l3, some (.int x), l5, l6] st h = jv_ev call 6 79 [l0, l1, l2, l3, some (.int x), l5, l6] (.int x :: st) h := je_iload D6_77 rfl rfl
theorem D6_79 : decode (jt_code 6) 79 = .ok (.iload_n 1, 1) := by decide +kernel
theorem E6_79 {call : jv_F} {l0 l2 l3 l4 l5 l6 : Option Value} {x : Int32} {st : List Value} {h : jv_H} : jv_ev call 6 79 [l0, some (.int x), l2, l3, l4, l5, l6] st h = jv_ev call 6 80 [l0, some (.int x), l2, l3, l4, l5, l6] (.int x :: st) h := je_iload_n D6_79 rfl rfl
theorem D6_80 : decode (jt_code 6) 80 = .ok (.iastore, 1) := by decide +kernel
theorem E6_80 {call : jv_F} {l0 l1 l2 l3 l4 l5 l6 : Option Value} {i : Nat} {v : Int32} {st : List Value} {m : Nat} {I : Nat → Int32} {A : Nat → Nat → Int32} {L : Nat → Nat → Int64} {rest : Nat → Option jv_C} {z : Nat × Nat} (hi : i < 12) : jv_ev call 6 80 [l0, l1, l2, l3, l4, l5, l6] (.int v :: .int (nI i) :: .ref (m + 3) :: st) (jm_H m I A L rest z) = jv_ev call 6 81 [l0, l1, l2, l3, l4, l5, l6] st (jm_H m I (va_up A 6 (upd (A 6) i v)) L rest z) := je_iast D6_80 rfl (jm_s6 hi)
theorem D6_81 : decode (jt_code 6) 81 = .ok (.iconst 0, 1) := by decide +kernel
theorem E6_81 {call : jv_F} {l0 l1 l2 l3 l4 l5 l6 : Option Value}  {st : List Value} {h : jv_H} : jv_ev call 6 81 [l0, l1, l2, l3, l4, l5, l6] st h = jv_ev call 6 82 [l0, l1, l2, l3, l4, l5, l6] (.int (nI 0) :: st) h := je_iconst D6_81 rfl (by decide)
theorem D6_82 : decode (jt_code 6) 82 = .ok (.istore 5, 2) := by decide +kernel
theorem E6_82 {call : jv_F} {l0 l1 l2 l3 l4 l5 l6 : Option Value} {x : Int32} {st : List Value} {h : jv_H} (hk : ¬ jv_is2 (some l4) = true) : jv_ev call 6 82 [l0, l1, l2, l3, l4, l5, l6] (.int x :: st) h = jv_ev call 6 84 [l0, l1, l2, l3, l4, some (.int x), l6] st h := je_istore D6_82 rfl (Nat.le_of_ble_eq_true rfl) (by show jv_st1 _ 5 _ = _; simp only [jv_st1, jv_kill, List.getElem?_cons_succ, List.getElem?_cons_zero, hk, if_false]; rfl)
theorem D6_84 : decode (jt_code 6) 84 = .ok (.iload 5, 2) := by decide +kernel
theorem E6_84 {call : jv_F} {l0 l1 l2 l3 l4 l6 : Option Value} {x : Int32} {st : List Value} {h : jv_H} : jv_ev call 6 84 [l0, l1, l2, l3, l4, some (.int x), l6] st h = jv_ev call 6 86 [l0, l1, l2, l3, l4, some (.int x), l6] (.int x :: st) h := je_iload D6_84 rfl rfl
theorem D6_86 : decode (jt_code 6) 86 = .ok (.iload_n 2, 1) := by decide +kernel
theorem E6_86 {call : jv_F} {l0 l1 l3 l4 l5 l6 : Option Value} {x : Int32} {st : List Value} {h : jv_H} : jv_ev call 6 86 [l0, l1, some (.int x), l3, l4, l5, l6] st h = jv_ev call 6 87 [l0, l1, some (.int x), l3, l4, l5, l6] (.int x :: st) h := je_iload_n D6_86 rfl rfl
theorem D6_87 : decode (jt_code 6) 87 = .ok (.if_icmp .ge 30, 3) := by decide +kernel
theorem E6_87 {call : jv_F} {l0 l1 l2 l3 l4 l5 l6 : Option Value} {x y : Int32} {st : List Value} {h : jv_H} : jv_ev call 6 87 [l0, l1, l2, l3, l4, l5, l6] (.int y :: .int x :: st) h = if y ≤ x then jv_ev call 6 117 [l0, l1, l2, l3, l4, l5, l6] st h else jv_ev call 6 90 [l0, l1, l2, l3, l4, l5, l6] st h := je_icmp D6_87 (by decide) rfl rfl
theorem D6_90 : decode (jt_code 6) 90 = .ok (.aload_n 0, 1) := by decide +kernel
theorem E6_90 {call : jv_F} {l1 l2 l3 l4 l5 l6 : Option Value} {a : Nat} {st : List Value} {h : jv_H} : jv_ev call 6 90 [some (.ref a), l1, l2, l3, l4, l5, l6] st h = jv_ev call 6 91 [some (.ref a), l1, l2, l3, l4, l5, l6] (.ref a :: st) h := je_aload_n (r := some a) D6_90 rfl rfl
theorem D6_91 : decode (jt_code 6) 91 = .ok (.getfield 39, 3) := by decide +kernel
theorem E6_91 {call : jv_F} {l0 l1 l2 l3 l4 l5 l6 : Option Value}  {st : List Value} {m : Nat} {I : Nat → Int32} {A : Nat → Nat → Int32} {L : Nat → Nat → Int64} {rest : Nat → Option jv_C} {z : Nat × Nat} : jv_ev call 6 91 [l0, l1, l2, l3, l4, l5, l6] (.ref m :: st) (jm_H m I A L rest z) = jv_ev call 6 94 [l0, l1, l2, l3, l4, l5, l6] (.ref (m + 9) :: st) (jm_H m I A L rest z) := je_get D6_91 rfl (by decide) jm_g12
theorem D6_94 : decode (jt_code 6) 94 = .ok (.sipush 1024, 3) := by decide +kernel
theorem E6_94 {call : jv_F} {l0 l1 l2 l3 l4 l5 l6 : Option Value}  {st : List Value} {h : jv_H} : jv_ev call 6 94 [l0, l1, l2, l3, l4, l5, l6] st h = jv_ev call 6 97 [l0, l1, l2, l3, l4, l5, l6] (.int (nI 1024) :: st) h := je_sipush D6_94 rfl (by decide)
theorem D6_97 : decode (jt_code 6) 97 = .ok (.iload 4, 2) := by decide +kernel
theorem E6_97 {call : jv_F} {l0 l1 l2 l3 l5 l6 : Option Value} {x : Int32} {st : List Value} {h : jv_H} : jv_ev call 6 97 [l0, l1, l2, l3, some (.int x), l5, l6] st h = jv_ev call 6 99 [l0, l1, l2, l3, some (.int x), l5, l6] (.int x :: st) h := je_iload D6_97 rfl rfl
theorem D6_99 : decode (jt_code 6) 99 = .ok (.imul, 1) := by decide +kernel
theorem E6_99 {call : jv_F} {l0 l1 l2 l3 l4 l5 l6 : Option Value} {x y : Int32} {st : List Value} {h : jv_H} : jv_ev call 6 99 [l0, l1, l2, l3, l4, l5, l6] (.int y :: .int x :: st) h = jv_ev call 6 100 [l0, l1, l2, l3, l4, l5, l6] (.int (x * y) :: st) h := je_b2 (f := fun x y => x * y) D6_99 rfl (fun _ => rfl)
theorem D6_100 : decode (jt_code 6) 100 = .ok (.iload 5, 2) := by decide +kernel
theorem E6_100 {call : jv_F} {l0 l1 l2 l3 l4 l6 : Option Value} {x : Int32} {st : List Value} {h : jv_H} : jv_ev call 6 100 [l0, l1, l2, l3, l4, some (.int x), l6] st h = jv_ev call 6 102 [l0, l1, l2, l3, l4, some (.int x), l6] (.int x :: st) h := je_iload D6_100 rfl rfl
theorem D6_102 : decode (jt_code 6) 102 = .ok (.iadd, 1) := by decide +kernel
theorem E6_102 {call : jv_F} {l0 l1 l2 l3 l4 l5 l6 : Option Value} {x y : Int32} {st : List Value} {h : jv_H} : jv_ev call 6 102 [l0, l1, l2, l3, l4, l5, l6] (.int y :: .int x :: st) h = jv_ev call 6 103 [l0, l1, l2, l3, l4, l5, l6] (.int (x + y) :: st) h := je_b2 (f := fun x y => x + y) D6_102 rfl (fun _ => rfl)
theorem D6_103 : decode (jt_code 6) 103 = .ok (.aload_n 0, 1) := by decide +kernel
theorem E6_103 {call : jv_F} {l1 l2 l3 l4 l5 l6 : Option Value} {a : Nat} {st : List Value} {h : jv_H} : jv_ev call 6 103 [some (.ref a), l1, l2, l3, l4, l5, l6] st h = jv_ev call 6 104 [some (.ref a), l1, l2, l3, l4, l5, l6] (.ref a :: st) h := je_aload_n (r := some a) D6_103 rfl rfl
theorem D6_104 : decode (jt_code 6) 104 = .ok (.getfield 13, 3) := by decide +kernel
theorem E6_104 {call : jv_F} {l0 l1 l2 l3 l4 l5 l6 : Option Value}  {st : List Value} {m : Nat} {I : Nat → Int32} {A : Nat → Nat → Int32} {L : Nat → Nat → Int64} {rest : Nat → Option jv_C} {z : Nat × Nat} : jv_ev call 6 104 [l0, l1, l2, l3, l4, l5, l6] (.ref m :: st) (jm_H m I A L rest z) = jv_ev call 6 107 [l0, l1, l2, l3, l4, l5, l6] (.ref (m + 1) :: st) (jm_H m I A L rest z) := je_get D6_104 rfl (by decide) jm_g1
theorem D6_107 : decode (jt_code 6) 107 = .ok (.iload 5, 2) := by decide +kernel
theorem E6_107 {call : jv_F} {l0 l1 l2 l3 l4 l6 : Option Value} {x : Int32} {st : List Value} {h : jv_H} : jv_ev call 6 107 [l0, l1, l2, l3, l4, some (.int x), l6] st h = jv_ev call 6 109 [l0, l1, l2, l3, l4, some (.int x), l6] (.int x :: st) h := je_iload D6_107 rfl rfl
theorem D6_109 : decode (jt_code 6) 109 = .ok (.laload, 1) := by decide +kernel
theorem E6_109 {call : jv_F} {l0 l1 l2 l3 l4 l5 l6 : Option Value} {i : Nat} {st : List Value} {m : Nat} {I : Nat → Int32} {A : Nat → Nat → Int32} {L : Nat → Nat → Int64} {rest : Nat → Option jv_C} {z : Nat × Nat} (hi : i < 1000) : jv_ev call 6 109 [l0, l1, l2, l3, l4, l5, l6] (.int (nI i) :: .ref (m + 1) :: st) (jm_H m I A L rest z) = jv_ev call 6 110 [l0, l1, l2, l3, l4, l5, l6] (.long (L 1 i) :: st) (jm_H m I A L rest z) := je_lald D6_109 rfl (jm_l1 hi)
theorem D6_110 : decode (jt_code 6) 110 = .ok (.lastore, 1) := by decide +kernel
theorem E6_110 {call : jv_F} {l0 l1 l2 l3 l4 l5 l6 : Option Value} {i : Nat} {v : Int64} {st : List Value} {m : Nat} {I : Nat → Int32} {A : Nat → Nat → Int32} {L : Nat → Nat → Int64} {rest : Nat → Option jv_C} {z : Nat × Nat} (hi : i < 12288) : jv_ev call 6 110 [l0, l1, l2, l3, l4, l5, l6] (.long v :: .int (nI i) :: .ref (m + 9) :: st) (jm_H m I A L rest z) = jv_ev call 6 111 [l0, l1, l2, l3, l4, l5, l6] st (jm_H m I A (va_up L 12 (vp_updL (L 12) i v)) rest z) := je_last D6_110 rfl (jm_s12 hi)
theorem D6_111 : decode (jt_code 6) 111 = .ok (.iinc 5 1, 3) := by decide +kernel
theorem E6_111 {call : jv_F} {l0 l1 l2 l3 l4 l6 : Option Value} {x : Int32} {st : List Value} {h : jv_H} (hk : ¬ jv_is2 (some l4) = true) : jv_ev call 6 111 [l0, l1, l2, l3, l4, some (.int x), l6] st h = jv_ev call 6 114 [l0, l1, l2, l3, l4, some (.int (x + (nI 1))), l6] st h := je_iinc D6_111 rfl rfl (v := x + (nI 1)) (by rfl) (by show jv_st1 _ 5 _ = _; simp only [jv_st1, jv_kill, List.getElem?_cons_succ, List.getElem?_cons_zero, hk, if_false]; rfl)
theorem D6_114 : decode (jt_code 6) 114 = .ok (.goto (-30), 3) := by decide +kernel
theorem E6_114 {call : jv_F} {l0 l1 l2 l3 l4 l5 l6 : Option Value}  {st : List Value} {h : jv_H} : jv_ev call 6 114 [l0, l1, l2, l3, l4, l5, l6] st h = jv_ev call 6 84 [l0, l1, l2, l3, l4, l5, l6] st h := je_goto D6_114 (by decide)
theorem D6_117 : decode (jt_code 6) 117 = .ok (.iconst 0, 1) := by decide +kernel
theorem E6_117 {call : jv_F} {l0 l1 l2 l3 l4 l5 l6 : Option Value}  {st : List Value} {h : jv_H} : jv_ev call 6 117 [l0, l1, l2, l3, l4, l5, l6] st h = jv_ev call 6 118 [l0, l1, l2, l3, l4, l5, l6] (.int (nI 0) :: st) h := je_iconst D6_117 rfl (by decide)
theorem D6_118 : decode (jt_code 6) 118 = .ok (.istore 5, 2) := by decide +kernel
theorem E6_118 {call : jv_F} {l0 l1 l2 l3 l4 l5 l6 : Option Value} {x : Int32} {st : List Value} {h : jv_H} (hk : ¬ jv_is2 (some l4) = true) : jv_ev call 6 118 [l0, l1, l2, l3, l4, l5, l6] (.int x :: st) h = jv_ev call 6 120 [l0, l1, l2, l3, l4, some (.int x), l6] st h := je_istore D6_118 rfl (Nat.le_of_ble_eq_true rfl) (by show jv_st1 _ 5 _ = _; simp only [jv_st1, jv_kill, List.getElem?_cons_succ, List.getElem?_cons_zero, hk, if_false]; rfl)
theorem D6_120 : decode (jt_code 6) 120 = .ok (.iload 5, 2) := by decide +kernel
theorem E6_120 {call : jv_F} {l0 l1 l2 l3 l4 l6 : Option Value} {x : Int32} {st : List Value} {h : jv_H} : jv_ev call 6 120 [l0, l1, l2, l3, l4, some (.int x), l6] st h = jv_ev call 6 122 [l0, l1, l2, l3, l4, some (.int x), l6] (.int x :: st) h := je_iload D6_120 rfl rfl
theorem D6_122 : decode (jt_code 6) 122 = .ok (.aload_n 0, 1) := by decide +kernel
theorem E6_122 {call : jv_F} {l1 l2 l3 l4 l5 l6 : Option Value} {a : Nat} {st : List Value} {h : jv_H} : jv_ev call 6 122 [some (.ref a), l1, l2, l3, l4, l5, l6] st h = jv_ev call 6 123 [some (.ref a), l1, l2, l3, l4, l5, l6] (.ref a :: st) h := je_aload_n (r := some a) D6_122 rfl rfl
theorem D6_123 : decode (jt_code 6) 123 = .ok (.getfield 107, 3) := by decide +kernel
theorem E6_123 {call : jv_F} {l0 l1 l2 l3 l4 l5 l6 : Option Value}  {st : List Value} {m : Nat} {I : Nat → Int32} {A : Nat → Nat → Int32} {L : Nat → Nat → Int64} {rest : Nat → Option jv_C} {z : Nat × Nat} : jv_ev call 6 123 [l0, l1, l2, l3, l4, l5, l6] (.ref m :: st) (jm_H m I A L rest z) = jv_ev call 6 126 [l0, l1, l2, l3, l4, l5, l6] (.int (I 4) :: st) (jm_H m I A L rest z) := je_get D6_123 rfl (by decide) jm_g4
theorem D6_126 : decode (jt_code 6) 126 = .ok (.if_icmp .ge 30, 3) := by decide +kernel
theorem E6_126 {call : jv_F} {l0 l1 l2 l3 l4 l5 l6 : Option Value} {x y : Int32} {st : List Value} {h : jv_H} : jv_ev call 6 126 [l0, l1, l2, l3, l4, l5, l6] (.int y :: .int x :: st) h = if y ≤ x then jv_ev call 6 156 [l0, l1, l2, l3, l4, l5, l6] st h else jv_ev call 6 129 [l0, l1, l2, l3, l4, l5, l6] st h := je_icmp D6_126 (by decide) rfl rfl
theorem D6_129 : decode (jt_code 6) 129 = .ok (.aload_n 0, 1) := by decide +kernel
theorem E6_129 {call : jv_F} {l1 l2 l3 l4 l5 l6 : Option Value} {a : Nat} {st : List Value} {h : jv_H} : jv_ev call 6 129 [some (.ref a), l1, l2, l3, l4, l5, l6] st h = jv_ev call 6 130 [some (.ref a), l1, l2, l3, l4, l5, l6] (.ref a :: st) h := je_aload_n (r := some a) D6_129 rfl rfl
theorem D6_130 : decode (jt_code 6) 130 = .ok (.getfield 42, 3) := by decide +kernel
theorem E6_130 {call : jv_F} {l0 l1 l2 l3 l4 l5 l6 : Option Value}  {st : List Value} {m : Nat} {I : Nat → Int32} {A : Nat → Nat → Int32} {L : Nat → Nat → Int64} {rest : Nat → Option jv_C} {z : Nat × Nat} : jv_ev call 6 130 [l0, l1, l2, l3, l4, l5, l6] (.ref m :: st) (jm_H m I A L rest z) = jv_ev call 6 133 [l0, l1, l2, l3, l4, l5, l6] (.ref (m + 10) :: st) (jm_H m I A L rest z) := je_get D6_130 rfl (by decide) jm_g13
theorem D6_133 : decode (jt_code 6) 133 = .ok (.sipush 2000, 3) := by decide +kernel
theorem E6_133 {call : jv_F} {l0 l1 l2 l3 l4 l5 l6 : Option Value}  {st : List Value} {h : jv_H} : jv_ev call 6 133 [l0, l1, l2, l3, l4, l5, l6] st h = jv_ev call 6 136 [l0, l1, l2, l3, l4, l5, l6] (.int (nI 2000) :: st) h := je_sipush D6_133 rfl (by decide)
theorem D6_136 : decode (jt_code 6) 136 = .ok (.iload 4, 2) := by decide +kernel
theorem E6_136 {call : jv_F} {l0 l1 l2 l3 l5 l6 : Option Value} {x : Int32} {st : List Value} {h : jv_H} : jv_ev call 6 136 [l0, l1, l2, l3, some (.int x), l5, l6] st h = jv_ev call 6 138 [l0, l1, l2, l3, some (.int x), l5, l6] (.int x :: st) h := je_iload D6_136 rfl rfl
theorem D6_138 : decode (jt_code 6) 138 = .ok (.imul, 1) := by decide +kernel
theorem E6_138 {call : jv_F} {l0 l1 l2 l3 l4 l5 l6 : Option Value} {x y : Int32} {st : List Value} {h : jv_H} : jv_ev call 6 138 [l0, l1, l2, l3, l4, l5, l6] (.int y :: .int x :: st) h = jv_ev call 6 139 [l0, l1, l2, l3, l4, l5, l6] (.int (x * y) :: st) h := je_b2 (f := fun x y => x * y) D6_138 rfl (fun _ => rfl)
theorem D6_139 : decode (jt_code 6) 139 = .ok (.iload 5, 2) := by decide +kernel
theorem E6_139 {call : jv_F} {l0 l1 l2 l3 l4 l6 : Option Value} {x : Int32} {st : List Value} {h : jv_H} : jv_ev call 6 139 [l0, l1, l2, l3, l4, some (.int x), l6] st h = jv_ev call 6 141 [l0, l1, l2, l3, l4, some (.int x), l6] (.int x :: st) h := je_iload D6_139 rfl rfl
theorem D6_141 : decode (jt_code 6) 141 = .ok (.iadd, 1) := by decide +kernel
theorem E6_141 {call : jv_F} {l0 l1 l2 l3 l4 l5 l6 : Option Value} {x y : Int32} {st : List Value} {h : jv_H} : jv_ev call 6 141 [l0, l1, l2, l3, l4, l5, l6] (.int y :: .int x :: st) h = jv_ev call 6 142 [l0, l1, l2, l3, l4, l5, l6] (.int (x + y) :: st) h := je_b2 (f := fun x y => x + y) D6_141 rfl (fun _ => rfl)
theorem D6_142 : decode (jt_code 6) 142 = .ok (.aload_n 0, 1) := by decide +kernel
theorem E6_142 {call : jv_F} {l1 l2 l3 l4 l5 l6 : Option Value} {a : Nat} {st : List Value} {h : jv_H} : jv_ev call 6 142 [some (.ref a), l1, l2, l3, l4, l5, l6] st h = jv_ev call 6 143 [some (.ref a), l1, l2, l3, l4, l5, l6] (.ref a :: st) h := je_aload_n (r := some a) D6_142 rfl rfl
theorem D6_143 : decode (jt_code 6) 143 = .ok (.getfield 17, 3) := by decide +kernel
theorem E6_143 {call : jv_F} {l0 l1 l2 l3 l4 l5 l6 : Option Value}  {st : List Value} {m : Nat} {I : Nat → Int32} {A : Nat → Nat → Int32} {L : Nat → Nat → Int64} {rest : Nat → Option jv_C} {z : Nat × Nat} : jv_ev call 6 143 [l0, l1, l2, l3, l4, l5, l6] (.ref m :: st) (jm_H m I A L rest z) = jv_ev call 6 146 [l0, l1, l2, l3, l4, l5, l6] (.ref (m + 2) :: st) (jm_H m I A L rest z) := je_get D6_143 rfl (by decide) jm_g3
theorem D6_146 : decode (jt_code 6) 146 = .ok (.iload 5, 2) := by decide +kernel
theorem E6_146 {call : jv_F} {l0 l1 l2 l3 l4 l6 : Option Value} {x : Int32} {st : List Value} {h : jv_H} : jv_ev call 6 146 [l0, l1, l2, l3, l4, some (.int x), l6] st h = jv_ev call 6 148 [l0, l1, l2, l3, l4, some (.int x), l6] (.int x :: st) h := je_iload D6_146 rfl rfl
theorem D6_148 : decode (jt_code 6) 148 = .ok (.iaload, 1) := by decide +kernel
theorem E6_148 {call : jv_F} {l0 l1 l2 l3 l4 l5 l6 : Option Value} {i : Nat} {st : List Value} {m : Nat} {I : Nat → Int32} {A : Nat → Nat → Int32} {L : Nat → Nat → Int64} {rest : Nat → Option jv_C} {z : Nat × Nat} (hi : i < 2000) : jv_ev call 6 148 [l0, l1, l2, l3, l4, l5, l6] (.int (nI i) :: .ref (m + 2) :: st) (jm_H m I A L rest z) = jv_ev call 6 149 [l0, l1, l2, l3, l4, l5, l6] (.int (A 3 i) :: st) (jm_H m I A L rest z) := je_iald D6_148 rfl (jm_l3 hi)
theorem D6_149 : decode (jt_code 6) 149 = .ok (.iastore, 1) := by decide +kernel
theorem E6_149 {call : jv_F} {l0 l1 l2 l3 l4 l5 l6 : Option Value} {i : Nat} {v : Int32} {st : List Value} {m : Nat} {I : Nat → Int32} {A : Nat → Nat → Int32} {L : Nat → Nat → Int64} {rest : Nat → Option jv_C} {z : Nat × Nat} (hi : i < 24000) : jv_ev call 6 149 [l0, l1, l2, l3, l4, l5, l6] (.int v :: .int (nI i) :: .ref (m + 10) :: st) (jm_H m I A L rest z) = jv_ev call 6 150 [l0, l1, l2, l3, l4, l5, l6] st (jm_H m I (va_up A 13 (upd (A 13) i v)) L rest z) := je_iast D6_149 rfl (jm_s13 hi)
theorem D6_150 : decode (jt_code 6) 150 = .ok (.iinc 5 1, 3) := by decide +kernel
theorem E6_150 {call : jv_F} {l0 l1 l2 l3 l4 l6 : Option Value} {x : Int32} {st : List Value} {h : jv_H} (hk : ¬ jv_is2 (some l4) = true) : jv_ev call 6 150 [l0, l1, l2, l3, l4, some (.int x), l6] st h = jv_ev call 6 153 [l0, l1, l2, l3, l4, some (.int (x + (nI 1))), l6] st h := je_iinc D6_150 rfl rfl (v := x + (nI 1)) (by rfl) (by show jv_st1 _ 5 _ = _; simp only [jv_st1, jv_kill, List.getElem?_cons_succ, List.getElem?_cons_zero, hk, if_false]; rfl)
theorem D6_153 : decode (jt_code 6) 153 = .ok (.goto (-33), 3) := by decide +kernel
theorem E6_153 {call : jv_F} {l0 l1 l2 l3 l4 l5 l6 : Option Value}  {st : List Value} {h : jv_H} : jv_ev call 6 153 [l0, l1, l2, l3, l4, l5, l6] st h = jv_ev call 6 120 [l0, l1, l2, l3, l4, l5, l6] st h := je_goto D6_153 (by decide)
theorem D6_156 : decode (jt_code 6) 156 = .ok (.aload_n 0, 1) := by decide +kernel
theorem E6_156 {call : jv_F} {l1 l2 l3 l4 l5 l6 : Option Value} {a : Nat} {st : List Value} {h : jv_H} : jv_ev call 6 156 [some (.ref a), l1, l2, l3, l4, l5, l6] st h = jv_ev call 6 157 [some (.ref a), l1, l2, l3, l4, l5, l6] (.ref a :: st) h := je_aload_n (r := some a) D6_156 rfl rfl
theorem D6_157 : decode (jt_code 6) 157 = .ok (.getfield 45, 3) := by decide +kernel
theorem E6_157 {call : jv_F} {l0 l1 l2 l3 l4 l5 l6 : Option Value}  {st : List Value} {m : Nat} {I : Nat → Int32} {A : Nat → Nat → Int32} {L : Nat → Nat → Int64} {rest : Nat → Option jv_C} {z : Nat × Nat} : jv_ev call 6 157 [l0, l1, l2, l3, l4, l5, l6] (.ref m :: st) (jm_H m I A L rest z) = jv_ev call 6 160 [l0, l1, l2, l3, l4, l5, l6] (.ref (m + 11) :: st) (jm_H m I A L rest z) := je_get D6_157 rfl (by decide) jm_g14
theorem D6_160 : decode (jt_code 6) 160 = .ok (.iload 4, 2) := by decide +kernel
theorem E6_160 {call : jv_F} {l0 l1 l2 l3 l5 l6 : Option Value} {x : Int32} {st : List Value} {h : jv_H} : jv_ev call 6 160 [l0, l1, l2, l3, some (.int x), l5, l6] st h = jv_ev call 6 162 [l0, l1, l2, l3, some (.int x), l5, l6] (.int x :: st) h := je_iload D6_160 rfl rfl
theorem D6_162 : decode (jt_code 6) 162 = .ok (.aload_n 0, 1) := by decide +kernel
theorem E6_162 {call : jv_F} {l1 l2 l3 l4 l5 l6 : Option Value} {a : Nat} {st : List Value} {h : jv_H} : jv_ev call 6 162 [some (.ref a), l1, l2, l3, l4, l5, l6] st h = jv_ev call 6 163 [some (.ref a), l1, l2, l3, l4, l5, l6] (.ref a :: st) h := je_aload_n (r := some a) D6_162 rfl rfl
theorem D6_163 : decode (jt_code 6) 163 = .ok (.getfield 107, 3) := by decide +kernel
theorem E6_163 {call : jv_F} {l0 l1 l2 l3 l4 l5 l6 : Option Value}  {st : List Value} {m : Nat} {I : Nat → Int32} {A : Nat → Nat → Int32} {L : Nat → Nat → Int64} {rest : Nat → Option jv_C} {z : Nat × Nat} : jv_ev call 6 163 [l0, l1, l2, l3, l4, l5, l6] (.ref m :: st) (jm_H m I A L rest z) = jv_ev call 6 166 [l0, l1, l2, l3, l4, l5, l6] (.int (I 4) :: st) (jm_H m I A L rest z) := je_get D6_163 rfl (by decide) jm_g4
theorem D6_166 : decode (jt_code 6) 166 = .ok (.iastore, 1) := by decide +kernel
theorem E6_166 {call : jv_F} {l0 l1 l2 l3 l4 l5 l6 : Option Value} {i : Nat} {v : Int32} {st : List Value} {m : Nat} {I : Nat → Int32} {A : Nat → Nat → Int32} {L : Nat → Nat → Int64} {rest : Nat → Option jv_C} {z : Nat × Nat} (hi : i < 12) : jv_ev call 6 166 [l0, l1, l2, l3, l4, l5, l6] (.int v :: .int (nI i) :: .ref (m + 11) :: st) (jm_H m I A L rest z) = jv_ev call 6 167 [l0, l1, l2, l3, l4, l5, l6] st (jm_H m I (va_up A 14 (upd (A 14) i v)) L rest z) := je_iast D6_166 rfl (jm_s14 hi)
theorem D6_167 : decode (jt_code 6) 167 = .ok (.aload_n 0, 1) := by decide +kernel
theorem E6_167 {call : jv_F} {l1 l2 l3 l4 l5 l6 : Option Value} {a : Nat} {st : List Value} {h : jv_H} : jv_ev call 6 167 [some (.ref a), l1, l2, l3, l4, l5, l6] st h = jv_ev call 6 168 [some (.ref a), l1, l2, l3, l4, l5, l6] (.ref a :: st) h := je_aload_n (r := some a) D6_167 rfl rfl
theorem D6_168 : decode (jt_code 6) 168 = .ok (.iconst 0, 1) := by decide +kernel
theorem E6_168 {call : jv_F} {l0 l1 l2 l3 l4 l5 l6 : Option Value}  {st : List Value} {h : jv_H} : jv_ev call 6 168 [l0, l1, l2, l3, l4, l5, l6] st h = jv_ev call 6 169 [l0, l1, l2, l3, l4, l5, l6] (.int (nI 0) :: st) h := je_iconst D6_168 rfl (by decide)
theorem D6_169 : decode (jt_code 6) 169 = .ok (.putfield 100, 3) := by decide +kernel
theorem E6_169 {call : jv_F} {l0 l1 l2 l3 l4 l5 l6 : Option Value} {v : Int32} {st : List Value} {m : Nat} {I : Nat → Int32} {A : Nat → Nat → Int32} {L : Nat → Nat → Int64} {rest : Nat → Option jv_C} {z : Nat × Nat} : jv_ev call 6 169 [l0, l1, l2, l3, l4, l5, l6] (.int v :: .ref m :: st) (jm_H m I A L rest z) = jv_ev call 6 172 [l0, l1, l2, l3, l4, l5, l6] st (jm_H m (upd I 2 v) A L rest z) := je_put D6_169 rfl (by decide) (by decide) jm_p2
theorem D6_172 : decode (jt_code 6) 172 = .ok (.aload_n 0, 1) := by decide +kernel
theorem E6_172 {call : jv_F} {l1 l2 l3 l4 l5 l6 : Option Value} {a : Nat} {st : List Value} {h : jv_H} : jv_ev call 6 172 [some (.ref a), l1, l2, l3, l4, l5, l6] st h = jv_ev call 6 173 [some (.ref a), l1, l2, l3, l4, l5, l6] (.ref a :: st) h := je_aload_n (r := some a) D6_172 rfl rfl
theorem D6_173 : decode (jt_code 6) 173 = .ok (.iconst 0, 1) := by decide +kernel
theorem E6_173 {call : jv_F} {l0 l1 l2 l3 l4 l5 l6 : Option Value}  {st : List Value} {h : jv_H} : jv_ev call 6 173 [l0, l1, l2, l3, l4, l5, l6] st h = jv_ev call 6 174 [l0, l1, l2, l3, l4, l5, l6] (.int (nI 0) :: st) h := je_iconst D6_173 rfl (by decide)
theorem D6_174 : decode (jt_code 6) 174 = .ok (.putfield 107, 3) := by decide +kernel
theorem E6_174 {call : jv_F} {l0 l1 l2 l3 l4 l5 l6 : Option Value} {v : Int32} {st : List Value} {m : Nat} {I : Nat → Int32} {A : Nat → Nat → Int32} {L : Nat → Nat → Int64} {rest : Nat → Option jv_C} {z : Nat × Nat} : jv_ev call 6 174 [l0, l1, l2, l3, l4, l5, l6] (.int v :: .ref m :: st) (jm_H m I A L rest z) = jv_ev call 6 177 [l0, l1, l2, l3, l4, l5, l6] st (jm_H m (upd I 4 v) A L rest z) := je_put D6_174 rfl (by decide) (by decide) jm_p4
theorem D6_177 : decode (jt_code 6) 177 = .ok (.iconst 0, 1) := by decide +kernel
theorem E6_177 {call : jv_F} {l0 l1 l2 l3 l4 l5 l6 : Option Value}  {st : List Value} {h : jv_H} : jv_ev call 6 177 [l0, l1, l2, l3, l4, l5, l6] st h = jv_ev call 6 178 [l0, l1, l2, l3, l4, l5, l6] (.int (nI 0) :: st) h := je_iconst D6_177 rfl (by decide)
theorem D6_178 : decode (jt_code 6) 178 = .ok (.istore 5, 2) := by decide +kernel
theorem E6_178 {call : jv_F} {l0 l1 l2 l3 l4 l5 l6 : Option Value} {x : Int32} {st : List Value} {h : jv_H} (hk : ¬ jv_is2 (some l4) = true) : jv_ev call 6 178 [l0, l1, l2, l3, l4, l5, l6] (.int x :: st) h = jv_ev call 6 180 [l0, l1, l2, l3, l4, some (.int x), l6] st h := je_istore D6_178 rfl (Nat.le_of_ble_eq_true rfl) (by show jv_st1 _ 5 _ = _; simp only [jv_st1, jv_kill, List.getElem?_cons_succ, List.getElem?_cons_zero, hk, if_false]; rfl)
theorem D6_180 : decode (jt_code 6) 180 = .ok (.iload 5, 2) := by decide +kernel
theorem E6_180 {call : jv_F} {l0 l1 l2 l3 l4 l6 : Option Value} {x : Int32} {st : List Value} {h : jv_H} : jv_ev call 6 180 [l0, l1, l2, l3, l4, some (.int x), l6] st h = jv_ev call 6 182 [l0, l1, l2, l3, l4, some (.int x), l6] (.int x :: st) h := je_iload D6_180 rfl rfl
theorem D6_182 : decode (jt_code 6) 182 = .ok (.bipush 64, 2) := by decide +kernel
theorem E6_182 {call : jv_F} {l0 l1 l2 l3 l4 l5 l6 : Option Value}  {st : List Value} {h : jv_H} : jv_ev call 6 182 [l0, l1, l2, l3, l4, l5, l6] st h = jv_ev call 6 184 [l0, l1, l2, l3, l4, l5, l6] (.int (nI 64) :: st) h := je_bipush D6_182 rfl (by decide)
theorem D6_184 : decode (jt_code 6) 184 = .ok (.if_icmp .ge 23, 3) := by decide +kernel
theorem E6_184 {call : jv_F} {l0 l1 l2 l3 l4 l5 l6 : Option Value} {x y : Int32} {st : List Value} {h : jv_H} : jv_ev call 6 184 [l0, l1, l2, l3, l4, l5, l6] (.int y :: .int x :: st) h = if y ≤ x then jv_ev call 6 207 [l0, l1, l2, l3, l4, l5, l6] st h else jv_ev call 6 187 [l0, l1, l2, l3, l4, l5, l6] st h := je_icmp D6_184 (by decide) rfl rfl
theorem D6_187 : decode (jt_code 6) 187 = .ok (.aload_n 0, 1) := by decide +kernel
theorem E6_187 {call : jv_F} {l1 l2 l3 l4 l5 l6 : Option Value} {a : Nat} {st : List Value} {h : jv_H} : jv_ev call 6 187 [some (.ref a), l1, l2, l3, l4, l5, l6] st h = jv_ev call 6 188 [some (.ref a), l1, l2, l3, l4, l5, l6] (.ref a :: st) h := je_aload_n (r := some a) D6_187 rfl rfl
theorem D6_188 : decode (jt_code 6) 188 = .ok (.getfield 67, 3) := by decide +kernel
theorem E6_188 {call : jv_F} {l0 l1 l2 l3 l4 l5 l6 : Option Value}  {st : List Value} {m : Nat} {I : Nat → Int32} {A : Nat → Nat → Int32} {L : Nat → Nat → Int64} {rest : Nat → Option jv_C} {z : Nat × Nat} : jv_ev call 6 188 [l0, l1, l2, l3, l4, l5, l6] (.ref m :: st) (jm_H m I A L rest z) = jv_ev call 6 191 [l0, l1, l2, l3, l4, l5, l6] (.ref (m + 18) :: st) (jm_H m I A L rest z) := je_get D6_188 rfl (by decide) jm_g21
theorem D6_191 : decode (jt_code 6) 191 = .ok (.bipush 64, 2) := by decide +kernel
theorem E6_191 {call : jv_F} {l0 l1 l2 l3 l4 l5 l6 : Option Value}  {st : List Value} {h : jv_H} : jv_ev call 6 191 [l0, l1, l2, l3, l4, l5, l6] st h = jv_ev call 6 193 [l0, l1, l2, l3, l4, l5, l6] (.int (nI 64) :: st) h := je_bipush D6_191 rfl (by decide)
theorem D6_193 : decode (jt_code 6) 193 = .ok (.iload 4, 2) := by decide +kernel
theorem E6_193 {call : jv_F} {l0 l1 l2 l3 l5 l6 : Option Value} {x : Int32} {st : List Value} {h : jv_H} : jv_ev call 6 193 [l0, l1, l2, l3, some (.int x), l5, l6] st h = jv_ev call 6 195 [l0, l1, l2, l3, some (.int x), l5, l6] (.int x :: st) h := je_iload D6_193 rfl rfl
theorem D6_195 : decode (jt_code 6) 195 = .ok (.imul, 1) := by decide +kernel
theorem E6_195 {call : jv_F} {l0 l1 l2 l3 l4 l5 l6 : Option Value} {x y : Int32} {st : List Value} {h : jv_H} : jv_ev call 6 195 [l0, l1, l2, l3, l4, l5, l6] (.int y :: .int x :: st) h = jv_ev call 6 196 [l0, l1, l2, l3, l4, l5, l6] (.int (x * y) :: st) h := je_b2 (f := fun x y => x * y) D6_195 rfl (fun _ => rfl)
theorem D6_196 : decode (jt_code 6) 196 = .ok (.iload 5, 2) := by decide +kernel
theorem E6_196 {call : jv_F} {l0 l1 l2 l3 l4 l6 : Option Value} {x : Int32} {st : List Value} {h : jv_H} : jv_ev call 6 196 [l0, l1, l2, l3, l4, some (.int x), l6] st h = jv_ev call 6 198 [l0, l1, l2, l3, l4, some (.int x), l6] (.int x :: st) h := je_iload D6_196 rfl rfl
theorem D6_198 : decode (jt_code 6) 198 = .ok (.iadd, 1) := by decide +kernel
theorem E6_198 {call : jv_F} {l0 l1 l2 l3 l4 l5 l6 : Option Value} {x y : Int32} {st : List Value} {h : jv_H} : jv_ev call 6 198 [l0, l1, l2, l3, l4, l5, l6] (.int y :: .int x :: st) h = jv_ev call 6 199 [l0, l1, l2, l3, l4, l5, l6] (.int (x + y) :: st) h := je_b2 (f := fun x y => x + y) D6_198 rfl (fun _ => rfl)
theorem D6_199 : decode (jt_code 6) 199 = .ok (.iconst (-1), 1) := by decide +kernel
theorem E6_199 {call : jv_F} {l0 l1 l2 l3 l4 l5 l6 : Option Value}  {st : List Value} {h : jv_H} : jv_ev call 6 199 [l0, l1, l2, l3, l4, l5, l6] st h = jv_ev call 6 200 [l0, l1, l2, l3, l4, l5, l6] (.int (-1) :: st) h := je_iconst D6_199 rfl (by decide)
theorem D6_200 : decode (jt_code 6) 200 = .ok (.iastore, 1) := by decide +kernel
theorem E6_200 {call : jv_F} {l0 l1 l2 l3 l4 l5 l6 : Option Value} {i : Nat} {v : Int32} {st : List Value} {m : Nat} {I : Nat → Int32} {A : Nat → Nat → Int32} {L : Nat → Nat → Int64} {rest : Nat → Option jv_C} {z : Nat × Nat} (hi : i < 768) : jv_ev call 6 200 [l0, l1, l2, l3, l4, l5, l6] (.int v :: .int (nI i) :: .ref (m + 18) :: st) (jm_H m I A L rest z) = jv_ev call 6 201 [l0, l1, l2, l3, l4, l5, l6] st (jm_H m I (va_up A 21 (upd (A 21) i v)) L rest z) := je_iast D6_200 rfl (jm_s21 hi)
theorem D6_201 : decode (jt_code 6) 201 = .ok (.iinc 5 1, 3) := by decide +kernel
theorem E6_201 {call : jv_F} {l0 l1 l2 l3 l4 l6 : Option Value} {x : Int32} {st : List Value} {h : jv_H} (hk : ¬ jv_is2 (some l4) = true) : jv_ev call 6 201 [l0, l1, l2, l3, l4, some (.int x), l6] st h = jv_ev call 6 204 [l0, l1, l2, l3, l4, some (.int (x + (nI 1))), l6] st h := je_iinc D6_201 rfl rfl (v := x + (nI 1)) (by rfl) (by show jv_st1 _ 5 _ = _; simp only [jv_st1, jv_kill, List.getElem?_cons_succ, List.getElem?_cons_zero, hk, if_false]; rfl)
theorem D6_204 : decode (jt_code 6) 204 = .ok (.goto (-24), 3) := by decide +kernel
theorem E6_204 {call : jv_F} {l0 l1 l2 l3 l4 l5 l6 : Option Value}  {st : List Value} {h : jv_H} : jv_ev call 6 204 [l0, l1, l2, l3, l4, l5, l6] st h = jv_ev call 6 180 [l0, l1, l2, l3, l4, l5, l6] st h := je_goto D6_204 (by decide)
theorem D6_207 : decode (jt_code 6) 207 = .ok (.iconst 0, 1) := by decide +kernel
theorem E6_207 {call : jv_F} {l0 l1 l2 l3 l4 l5 l6 : Option Value}  {st : List Value} {h : jv_H} : jv_ev call 6 207 [l0, l1, l2, l3, l4, l5, l6] st h = jv_ev call 6 208 [l0, l1, l2, l3, l4, l5, l6] (.int (nI 0) :: st) h := je_iconst D6_207 rfl (by decide)
theorem D6_208 : decode (jt_code 6) 208 = .ok (.istore 5, 2) := by decide +kernel
theorem E6_208 {call : jv_F} {l0 l1 l2 l3 l4 l5 l6 : Option Value} {x : Int32} {st : List Value} {h : jv_H} (hk : ¬ jv_is2 (some l4) = true) : jv_ev call 6 208 [l0, l1, l2, l3, l4, l5, l6] (.int x :: st) h = jv_ev call 6 210 [l0, l1, l2, l3, l4, some (.int x), l6] st h := je_istore D6_208 rfl (Nat.le_of_ble_eq_true rfl) (by show jv_st1 _ 5 _ = _; simp only [jv_st1, jv_kill, List.getElem?_cons_succ, List.getElem?_cons_zero, hk, if_false]; rfl)
theorem D6_210 : decode (jt_code 6) 210 = .ok (.iconst 0, 1) := by decide +kernel
theorem E6_210 {call : jv_F} {l0 l1 l2 l3 l4 l5 l6 : Option Value}  {st : List Value} {h : jv_H} : jv_ev call 6 210 [l0, l1, l2, l3, l4, l5, l6] st h = jv_ev call 6 211 [l0, l1, l2, l3, l4, l5, l6] (.int (nI 0) :: st) h := je_iconst D6_210 rfl (by decide)
theorem D6_211 : decode (jt_code 6) 211 = .ok (.istore 6, 2) := by decide +kernel
theorem E6_211 {call : jv_F} {l0 l1 l2 l3 l4 l5 l6 : Option Value} {x : Int32} {st : List Value} {h : jv_H} (hk : ¬ jv_is2 (some l5) = true) : jv_ev call 6 211 [l0, l1, l2, l3, l4, l5, l6] (.int x :: st) h = jv_ev call 6 213 [l0, l1, l2, l3, l4, l5, some (.int x)] st h := je_istore D6_211 rfl (Nat.le_of_ble_eq_true rfl) (by show jv_st1 _ 6 _ = _; simp only [jv_st1, jv_kill, List.getElem?_cons_succ, List.getElem?_cons_zero, hk, if_false]; rfl)
theorem D6_213 : decode (jt_code 6) 213 = .ok (.iload 6, 2) := by decide +kernel
theorem E6_213 {call : jv_F} {l0 l1 l2 l3 l4 l5 : Option Value} {x : Int32} {st : List Value} {h : jv_H} : jv_ev call 6 213 [l0, l1, l2, l3, l4, l5, some (.int x)] st h = jv_ev call 6 215 [l0, l1, l2, l3, l4, l5, some (.int x)] (.int x :: st) h := je_iload D6_213 rfl rfl
theorem D6_215 : decode (jt_code 6) 215 = .ok (.iload_n 3, 1) := by decide +kernel
theorem E6_215 {call : jv_F} {l0 l1 l2 l4 l5 l6 : Option Value} {x : Int32} {st : List Value} {h : jv_H} : jv_ev call 6 215 [l0, l1, l2, some (.int x), l4, l5, l6] st h = jv_ev call 6 216 [l0, l1, l2, some (.int x), l4, l5, l6] (.int x :: st) h := je_iload_n D6_215 rfl rfl
theorem D6_216 : decode (jt_code 6) 216 = .ok (.if_icmp .ge 52, 3) := by decide +kernel
theorem E6_216 {call : jv_F} {l0 l1 l2 l3 l4 l5 l6 : Option Value} {x y : Int32} {st : List Value} {h : jv_H} : jv_ev call 6 216 [l0, l1, l2, l3, l4, l5, l6] (.int y :: .int x :: st) h = if y ≤ x then jv_ev call 6 268 [l0, l1, l2, l3, l4, l5, l6] st h else jv_ev call 6 219 [l0, l1, l2, l3, l4, l5, l6] st h := je_icmp D6_216 (by decide) rfl rfl
theorem D6_219 : decode (jt_code 6) 219 = .ok (.aload_n 0, 1) := by decide +kernel
theorem E6_219 {call : jv_F} {l1 l2 l3 l4 l5 l6 : Option Value} {a : Nat} {st : List Value} {h : jv_H} : jv_ev call 6 219 [some (.ref a), l1, l2, l3, l4, l5, l6] st h = jv_ev call 6 220 [some (.ref a), l1, l2, l3, l4, l5, l6] (.ref a :: st) h := je_aload_n (r := some a) D6_219 rfl rfl
theorem D6_220 : decode (jt_code 6) 220 = .ok (.getfield 85, 3) := by decide +kernel
theorem E6_220 {call : jv_F} {l0 l1 l2 l3 l4 l5 l6 : Option Value}  {st : List Value} {m : Nat} {I : Nat → Int32} {A : Nat → Nat → Int32} {L : Nat → Nat → Int64} {rest : Nat → Option jv_C} {z : Nat × Nat} : jv_ev call 6 220 [l0, l1, l2, l3, l4, l5, l6] (.ref m :: st) (jm_H m I A L rest z) = jv_ev call 6 223 [l0, l1, l2, l3, l4, l5, l6] (.ref (m + 24) :: st) (jm_H m I A L rest z) := je_get D6_220 rfl (by decide) jm_g28
theorem D6_223 : decode (jt_code 6) 223 = .ok (.iload 5, 2) := by decide +kernel
theorem E6_223 {call : jv_F} {l0 l1 l2 l3 l4 l6 : Option Value} {x : Int32} {st : List Value} {h : jv_H} : jv_ev call 6 223 [l0, l1, l2, l3, l4, some (.int x), l6] st h = jv_ev call 6 225 [l0, l1, l2, l3, l4, some (.int x), l6] (.int x :: st) h := je_iload D6_223 rfl rfl
theorem D6_225 : decode (jt_code 6) 225 = .ok (.iaload, 1) := by decide +kernel
theorem E6_225 {call : jv_F} {l0 l1 l2 l3 l4 l5 l6 : Option Value} {i : Nat} {st : List Value} {m : Nat} {I : Nat → Int32} {A : Nat → Nat → Int32} {L : Nat → Nat → Int64} {rest : Nat → Option jv_C} {z : Nat × Nat} (hi : i < 64) : jv_ev call 6 225 [l0, l1, l2, l3, l4, l5, l6] (.int (nI i) :: .ref (m + 24) :: st) (jm_H m I A L rest z) = jv_ev call 6 226 [l0, l1, l2, l3, l4, l5, l6] (.int (A 28 i) :: st) (jm_H m I A L rest z) := je_iald D6_225 rfl (jm_l28 hi)
theorem D6_226 : decode (jt_code 6) 226 = .ok (.ifCond .lt 9, 3) := by decide +kernel
theorem E6_226 {call : jv_F} {l0 l1 l2 l3 l4 l5 l6 : Option Value} {x : Int32} {st : List Value} {h : jv_H} : jv_ev call 6 226 [l0, l1, l2, l3, l4, l5, l6] (.int x :: st) h = if x < 0 then jv_ev call 6 235 [l0, l1, l2, l3, l4, l5, l6] st h else jv_ev call 6 229 [l0, l1, l2, l3, l4, l5, l6] st h := je_ifc D6_226 (by decide) rfl rfl
theorem D6_229 : decode (jt_code 6) 229 = .ok (.iinc 5 1, 3) := by decide +kernel
theorem E6_229 {call : jv_F} {l0 l1 l2 l3 l4 l6 : Option Value} {x : Int32} {st : List Value} {h : jv_H} (hk : ¬ jv_is2 (some l4) = true) : jv_ev call 6 229 [l0, l1, l2, l3, l4, some (.int x), l6] st h = jv_ev call 6 232 [l0, l1, l2, l3, l4, some (.int (x + (nI 1))), l6] st h := je_iinc D6_229 rfl rfl (v := x + (nI 1)) (by rfl) (by show jv_st1 _ 5 _ = _; simp only [jv_st1, jv_kill, List.getElem?_cons_succ, List.getElem?_cons_zero, hk, if_false]; rfl)
theorem D6_232 : decode (jt_code 6) 232 = .ok (.goto (-13), 3) := by decide +kernel
theorem E6_232 {call : jv_F} {l0 l1 l2 l3 l4 l5 l6 : Option Value}  {st : List Value} {h : jv_H} : jv_ev call 6 232 [l0, l1, l2, l3, l4, l5, l6] st h = jv_ev call 6 219 [l0, l1, l2, l3, l4, l5, l6] st h := je_goto D6_232 (by decide)
theorem D6_235 : decode (jt_code 6) 235 = .ok (.aload_n 0, 1) := by decide +kernel
theorem E6_235 {call : jv_F} {l1 l2 l3 l4 l5 l6 : Option Value} {a : Nat} {st : List Value} {h : jv_H} : jv_ev call 6 235 [some (.ref a), l1, l2, l3, l4, l5, l6] st h = jv_ev call 6 236 [some (.ref a), l1, l2, l3, l4, l5, l6] (.ref a :: st) h := je_aload_n (r := some a) D6_235 rfl rfl
theorem D6_236 : decode (jt_code 6) 236 = .ok (.getfield 85, 3) := by decide +kernel
theorem E6_236 {call : jv_F} {l0 l1 l2 l3 l4 l5 l6 : Option Value}  {st : List Value} {m : Nat} {I : Nat → Int32} {A : Nat → Nat → Int32} {L : Nat → Nat → Int64} {rest : Nat → Option jv_C} {z : Nat × Nat} : jv_ev call 6 236 [l0, l1, l2, l3, l4, l5, l6] (.ref m :: st) (jm_H m I A L rest z) = jv_ev call 6 239 [l0, l1, l2, l3, l4, l5, l6] (.ref (m + 24) :: st) (jm_H m I A L rest z) := je_get D6_236 rfl (by decide) jm_g28
theorem D6_239 : decode (jt_code 6) 239 = .ok (.iload 5, 2) := by decide +kernel
theorem E6_239 {call : jv_F} {l0 l1 l2 l3 l4 l6 : Option Value} {x : Int32} {st : List Value} {h : jv_H} : jv_ev call 6 239 [l0, l1, l2, l3, l4, some (.int x), l6] st h = jv_ev call 6 241 [l0, l1, l2, l3, l4, some (.int x), l6] (.int x :: st) h := je_iload D6_239 rfl rfl
theorem D6_241 : decode (jt_code 6) 241 = .ok (.bipush 64, 2) := by decide +kernel
theorem E6_241 {call : jv_F} {l0 l1 l2 l3 l4 l5 l6 : Option Value}  {st : List Value} {h : jv_H} : jv_ev call 6 241 [l0, l1, l2, l3, l4, l5, l6] st h = jv_ev call 6 243 [l0, l1, l2, l3, l4, l5, l6] (.int (nI 64) :: st) h := je_bipush D6_241 rfl (by decide)
theorem D6_243 : decode (jt_code 6) 243 = .ok (.iload 4, 2) := by decide +kernel
theorem E6_243 {call : jv_F} {l0 l1 l2 l3 l5 l6 : Option Value} {x : Int32} {st : List Value} {h : jv_H} : jv_ev call 6 243 [l0, l1, l2, l3, some (.int x), l5, l6] st h = jv_ev call 6 245 [l0, l1, l2, l3, some (.int x), l5, l6] (.int x :: st) h := je_iload D6_243 rfl rfl
theorem D6_245 : decode (jt_code 6) 245 = .ok (.imul, 1) := by decide +kernel
theorem E6_245 {call : jv_F} {l0 l1 l2 l3 l4 l5 l6 : Option Value} {x y : Int32} {st : List Value} {h : jv_H} : jv_ev call 6 245 [l0, l1, l2, l3, l4, l5, l6] (.int y :: .int x :: st) h = jv_ev call 6 246 [l0, l1, l2, l3, l4, l5, l6] (.int (x * y) :: st) h := je_b2 (f := fun x y => x * y) D6_245 rfl (fun _ => rfl)
theorem D6_246 : decode (jt_code 6) 246 = .ok (.iload 6, 2) := by decide +kernel
theorem E6_246 {call : jv_F} {l0 l1 l2 l3 l4 l5 : Option Value} {x : Int32} {st : List Value} {h : jv_H} : jv_ev call 6 246 [l0, l1, l2, l3, l4, l5, some (.int x)] st h = jv_ev call 6 248 [l0, l1, l2, l3, l4, l5, some (.int x)] (.int x :: st) h := je_iload D6_246 rfl rfl
theorem D6_248 : decode (jt_code 6) 248 = .ok (.iadd, 1) := by decide +kernel
theorem E6_248 {call : jv_F} {l0 l1 l2 l3 l4 l5 l6 : Option Value} {x y : Int32} {st : List Value} {h : jv_H} : jv_ev call 6 248 [l0, l1, l2, l3, l4, l5, l6] (.int y :: .int x :: st) h = jv_ev call 6 249 [l0, l1, l2, l3, l4, l5, l6] (.int (x + y) :: st) h := je_b2 (f := fun x y => x + y) D6_248 rfl (fun _ => rfl)
theorem D6_249 : decode (jt_code 6) 249 = .ok (.iastore, 1) := by decide +kernel
theorem E6_249 {call : jv_F} {l0 l1 l2 l3 l4 l5 l6 : Option Value} {i : Nat} {v : Int32} {st : List Value} {m : Nat} {I : Nat → Int32} {A : Nat → Nat → Int32} {L : Nat → Nat → Int64} {rest : Nat → Option jv_C} {z : Nat × Nat} (hi : i < 64) : jv_ev call 6 249 [l0, l1, l2, l3, l4, l5, l6] (.int v :: .int (nI i) :: .ref (m + 24) :: st) (jm_H m I A L rest z) = jv_ev call 6 250 [l0, l1, l2, l3, l4, l5, l6] st (jm_H m I (va_up A 28 (upd (A 28) i v)) L rest z) := je_iast D6_249 rfl (jm_s28 hi)
theorem D6_250 : decode (jt_code 6) 250 = .ok (.aload_n 0, 1) := by decide +kernel
theorem E6_250 {call : jv_F} {l1 l2 l3 l4 l5 l6 : Option Value} {a : Nat} {st : List Value} {h : jv_H} : jv_ev call 6 250 [some (.ref a), l1, l2, l3, l4, l5, l6] st h = jv_ev call 6 251 [some (.ref a), l1, l2, l3, l4, l5, l6] (.ref a :: st) h := je_aload_n (r := some a) D6_250 rfl rfl
theorem D6_251 : decode (jt_code 6) 251 = .ok (.bipush 64, 2) := by decide +kernel
theorem E6_251 {call : jv_F} {l0 l1 l2 l3 l4 l5 l6 : Option Value}  {st : List Value} {h : jv_H} : jv_ev call 6 251 [l0, l1, l2, l3, l4, l5, l6] st h = jv_ev call 6 253 [l0, l1, l2, l3, l4, l5, l6] (.int (nI 64) :: st) h := je_bipush D6_251 rfl (by decide)
theorem D6_253 : decode (jt_code 6) 253 = .ok (.iload 4, 2) := by decide +kernel
theorem E6_253 {call : jv_F} {l0 l1 l2 l3 l5 l6 : Option Value} {x : Int32} {st : List Value} {h : jv_H} : jv_ev call 6 253 [l0, l1, l2, l3, some (.int x), l5, l6] st h = jv_ev call 6 255 [l0, l1, l2, l3, some (.int x), l5, l6] (.int x :: st) h := je_iload D6_253 rfl rfl
theorem D6_255 : decode (jt_code 6) 255 = .ok (.imul, 1) := by decide +kernel
theorem E6_255 {call : jv_F} {l0 l1 l2 l3 l4 l5 l6 : Option Value} {x y : Int32} {st : List Value} {h : jv_H} : jv_ev call 6 255 [l0, l1, l2, l3, l4, l5, l6] (.int y :: .int x :: st) h = jv_ev call 6 256 [l0, l1, l2, l3, l4, l5, l6] (.int (x * y) :: st) h := je_b2 (f := fun x y => x * y) D6_255 rfl (fun _ => rfl)
theorem D6_256 : decode (jt_code 6) 256 = .ok (.iload 6, 2) := by decide +kernel
theorem E6_256 {call : jv_F} {l0 l1 l2 l3 l4 l5 : Option Value} {x : Int32} {st : List Value} {h : jv_H} : jv_ev call 6 256 [l0, l1, l2, l3, l4, l5, some (.int x)] st h = jv_ev call 6 258 [l0, l1, l2, l3, l4, l5, some (.int x)] (.int x :: st) h := je_iload D6_256 rfl rfl
theorem D6_258 : decode (jt_code 6) 258 = .ok (.iadd, 1) := by decide +kernel
theorem E6_258 {call : jv_F} {l0 l1 l2 l3 l4 l5 l6 : Option Value} {x y : Int32} {st : List Value} {h : jv_H} : jv_ev call 6 258 [l0, l1, l2, l3, l4, l5, l6] (.int y :: .int x :: st) h = jv_ev call 6 259 [l0, l1, l2, l3, l4, l5, l6] (.int (x + y) :: st) h := je_b2 (f := fun x y => x + y) D6_258 rfl (fun _ => rfl)
theorem D6_259 : decode (jt_code 6) 259 = .ok (.invokevirtual 113, 3) := by decide +kernel
theorem E6_259 {call : jv_F} {l0 l1 l2 l3 l4 l5 l6 : Option Value} {v0 : Value}  {st : List Value} {m : Nat} {I : Nat → Int32} {A : Nat → Nat → Int32} {L : Nat → Nat → Int64} {rest : Nat → Option jv_C} {z : Nat × Nat} (hw : jv_wide st = true) (hc : (call 7 [.ref m, v0] (jm_H m I A L rest z)).isSome = true) : jv_ev call 6 259 [l0, l1, l2, l3, l4, l5, l6] (v0 :: .ref m :: st) (jm_H m I A L rest z) = jv_ev call 6 262 [l0, l1, l2, l3, l4, l5, l6] ((((call 7 [.ref m, v0] (jm_H m I A L rest z)).getD (none, (jm_H m I A L rest z))).1).toList ++ st) ((call 7 [.ref m, v0] (jm_H m I A L rest z)).getD (none, (jm_H m I A L rest z))).2 := by
  obtain ⟨⟨r, h'⟩, hv⟩ := Option.isSome_iff_exists.mp hc
  rw [hv]
  exact je_virt (y := 7) (as := [v0]) D6_259 rfl (by decide) (by decide) rfl jm_cl hw hv
theorem D6_262 : decode (jt_code 6) 262 = .ok (.iinc 6 1, 3) := by decide +kernel
theorem E6_262 {call : jv_F} {l0 l1 l2 l3 l4 l5 : Option Value} {x : Int32} {st : List Value} {h : jv_H} (hk : ¬ jv_is2 (some l5) = true) : jv_ev call 6 262 [l0, l1, l2, l3, l4, l5, some (.int x)] st h = jv_ev call 6 265 [l0, l1, l2, l3, l4, l5, some (.int (x + (nI 1)))] st h := je_iinc D6_262 rfl rfl (v := x + (nI 1)) (by rfl) (by show jv_st1 _ 6 _ = _; simp only [jv_st1, jv_kill, List.getElem?_cons_succ, List.getElem?_cons_zero, hk, if_false]; rfl)
theorem D6_265 : decode (jt_code 6) 265 = .ok (.goto (-52), 3) := by decide +kernel
theorem E6_265 {call : jv_F} {l0 l1 l2 l3 l4 l5 l6 : Option Value}  {st : List Value} {h : jv_H} : jv_ev call 6 265 [l0, l1, l2, l3, l4, l5, l6] st h = jv_ev call 6 213 [l0, l1, l2, l3, l4, l5, l6] st h := je_goto D6_265 (by decide)
theorem D6_268 : decode (jt_code 6) 268 = .ok (.iload 4, 2) := by decide +kernel
theorem E6_268 {call : jv_F} {l0 l1 l2 l3 l5 l6 : Option Value} {x : Int32} {st : List Value} {h : jv_H} : jv_ev call 6 268 [l0, l1, l2, l3, some (.int x), l5, l6] st h = jv_ev call 6 270 [l0, l1, l2, l3, some (.int x), l5, l6] (.int x :: st) h := je_iload D6_268 rfl rfl
theorem D6_270 : decode (jt_code 6) 270 = .ok (.ireturn, 1) := by decide +kernel
theorem E6_270 {call : jv_F} {l0 l1 l2 l3 l4 l5 l6 : Option Value} {v : Int32} {h : jv_H} : jv_ev call 6 270 [l0, l1, l2, l3, l4, l5, l6] [.int v] h = some (some (.int v), h) := je_iret (ty := .int) D6_270 rfl rfl rfl
/-! method 56: DrumMachineModel.told -/
theorem N56 {d : Nat} {b : Nat} {a0 : Int32} {h : jv_H} : jv_run (d + 1) 56 [.ref b, .int a0] h = jv_ev (jv_run d) 56 0 [some (.ref b), some (.int a0), none, none] [] h := jv_run_eq (Nat.le_of_ble_eq_true rfl) rfl
theorem D56_0 : decode (jt_code 56) 0 = .ok (.iconst 0, 1) := by decide +kernel
theorem E56_0 {call : jv_F} {l0 l1 l2 l3 : Option Value}  {st : List Value} {h : jv_H} : jv_ev call 56 0 [l0, l1, l2, l3] st h = jv_ev call 56 1 [l0, l1, l2, l3] (.int (nI 0) :: st) h := je_iconst D56_0 rfl (by decide)
theorem D56_1 : decode (jt_code 56) 1 = .ok (.istore_n 2, 1) := by decide +kernel
theorem E56_1 {call : jv_F} {l0 l1 l2 l3 : Option Value} {x : Int32} {st : List Value} {h : jv_H} (hk : ¬ jv_is2 (some l1) = true) : jv_ev call 56 1 [l0, l1, l2, l3] (.int x :: st) h = jv_ev call 56 2 [l0, l1, some (.int x), l3] st h := je_istore_n D56_1 rfl (Nat.le_of_ble_eq_true rfl) (by show jv_st1 _ 2 _ = _; simp only [jv_st1, jv_kill, List.getElem?_cons_succ, List.getElem?_cons_zero, hk, if_false]; rfl)
theorem D56_2 : decode (jt_code 56) 2 = .ok (.iload_n 1, 1) := by decide +kernel
theorem E56_2 {call : jv_F} {l0 l2 l3 : Option Value} {x : Int32} {st : List Value} {h : jv_H} : jv_ev call 56 2 [l0, some (.int x), l2, l3] st h = jv_ev call 56 3 [l0, some (.int x), l2, l3] (.int x :: st) h := je_iload_n D56_2 rfl rfl
theorem D56_3 : decode (jt_code 56) 3 = .ok (.tableswitch 114 0 7 #[45, 50, 55, 60, 65, 70, 75, 109], 45) := by decide +kernel
theorem E56_3 {call : jv_F} {l0 l1 l2 l3 : Option Value} {x : Int32} {st : List Value} {h : jv_H} : jv_ev call 56 3 [l0, l1, l2, l3] (.int x :: st) h = if x = (nI 0) then jv_ev call 56 48 [l0, l1, l2, l3] st h else (if x = (nI 1) then jv_ev call 56 53 [l0, l1, l2, l3] st h else (if x = (nI 2) then jv_ev call 56 58 [l0, l1, l2, l3] st h else (if x = (nI 3) then jv_ev call 56 63 [l0, l1, l2, l3] st h else (if x = (nI 4) then jv_ev call 56 68 [l0, l1, l2, l3] st h else (if x = (nI 5) then jv_ev call 56 73 [l0, l1, l2, l3] st h else (if x = (nI 6) then jv_ev call 56 78 [l0, l1, l2, l3] st h else (if x = (nI 7) then jv_ev call 56 112 [l0, l1, l2, l3] st h else (jv_ev call 56 117 [l0, l1, l2, l3] st h)))))))) := by
  by_cases h0 : x = nI 0
  · subst h0
    exact je_next D56_3 rfl
  by_cases h1 : x = nI 1
  · subst h1
    exact je_next D56_3 rfl
  by_cases h2 : x = nI 2
  · subst h2
    exact je_next D56_3 rfl
  by_cases h3 : x = nI 3
  · subst h3
    exact je_next D56_3 rfl
  by_cases h4 : x = nI 4
  · subst h4
    exact je_next D56_3 rfl
  by_cases h5 : x = nI 5
  · subst h5
    exact je_next D56_3 rfl
  by_cases h6 : x = nI 6
  · subst h6
    exact je_next D56_3 rfl
  by_cases h7 : x = nI 7
  · subst h7
    exact je_next D56_3 rfl
  rw [if_neg h0]
  rw [if_neg h1]
  rw [if_neg h2]
  rw [if_neg h3]
  rw [if_neg h4]
  rw [if_neg h5]
  rw [if_neg h6]
  rw [if_neg h7]
  refine je_next D56_3 ?_
  simp only [jv_ins]
  rw [if_pos (show x.toInt < 0 ∨ 7 < x.toInt from jv_tab (lo := 0) (hi := 7) (fun k hk1 hk2 => by
    rcases (show k = 0 ∨ k = 1 ∨ k = 2 ∨ k = 3 ∨ k = 4 ∨ k = 5 ∨ k = 6 ∨ k = 7 by omega) with rfl | rfl | rfl | rfl | rfl | rfl | rfl | rfl
    · exact h0
    · exact h1
    · exact h2
    · exact h3
    · exact h4
    · exact h5
    · exact h6
    · exact h7) (by decide))]
  exact jv_go_eq (by decide)
theorem D56_48 : decode (jt_code 56) 48 = .ok (.aload_n 0, 1) := by decide +kernel
theorem E56_48 {call : jv_F} {l1 l2 l3 : Option Value} {a : Nat} {st : List Value} {h : jv_H} : jv_ev call 56 48 [some (.ref a), l1, l2, l3] st h = jv_ev call 56 49 [some (.ref a), l1, l2, l3] (.ref a :: st) h := je_aload_n (r := some a) D56_48 rfl rfl
theorem D56_49 : decode (jt_code 56) 49 = .ok (.getfield 207, 3) := by decide +kernel
theorem E56_49 {call : jv_F} {l0 l1 l2 l3 : Option Value}  {st : List Value} {m : Nat} {I : Nat → Int32} {A : Nat → Nat → Int32} {L : Nat → Nat → Int64} {rest : Nat → Option jv_C} {z : Nat × Nat} : jv_ev call 56 49 [l0, l1, l2, l3] (.ref m :: st) (jm_H m I A L rest z) = jv_ev call 56 52 [l0, l1, l2, l3] (.int (I 38) :: st) (jm_H m I A L rest z) := je_get D56_49 rfl (by decide) jm_g38
theorem D56_52 : decode (jt_code 56) 52 = .ok (.ireturn, 1) := by decide +kernel
theorem E56_52 {call : jv_F} {l0 l1 l2 l3 : Option Value} {v : Int32} {h : jv_H} : jv_ev call 56 52 [l0, l1, l2, l3] [.int v] h = some (some (.int v), h) := je_iret (ty := .int) D56_52 rfl rfl rfl
theorem D56_53 : decode (jt_code 56) 53 = .ok (.aload_n 0, 1) := by decide +kernel
theorem E56_53 {call : jv_F} {l1 l2 l3 : Option Value} {a : Nat} {st : List Value} {h : jv_H} : jv_ev call 56 53 [some (.ref a), l1, l2, l3] st h = jv_ev call 56 54 [some (.ref a), l1, l2, l3] (.ref a :: st) h := je_aload_n (r := some a) D56_53 rfl rfl
theorem D56_54 : decode (jt_code 56) 54 = .ok (.getfield 213, 3) := by decide +kernel
theorem E56_54 {call : jv_F} {l0 l1 l2 l3 : Option Value}  {st : List Value} {m : Nat} {I : Nat → Int32} {A : Nat → Nat → Int32} {L : Nat → Nat → Int64} {rest : Nat → Option jv_C} {z : Nat × Nat} : jv_ev call 56 54 [l0, l1, l2, l3] (.ref m :: st) (jm_H m I A L rest z) = jv_ev call 56 57 [l0, l1, l2, l3] (.int (I 39) :: st) (jm_H m I A L rest z) := je_get D56_54 rfl (by decide) jm_g39
theorem D56_57 : decode (jt_code 56) 57 = .ok (.ireturn, 1) := by decide +kernel
theorem E56_57 {call : jv_F} {l0 l1 l2 l3 : Option Value} {v : Int32} {h : jv_H} : jv_ev call 56 57 [l0, l1, l2, l3] [.int v] h = some (some (.int v), h) := je_iret (ty := .int) D56_57 rfl rfl rfl
theorem D56_58 : decode (jt_code 56) 58 = .ok (.aload_n 0, 1) := by decide +kernel
theorem E56_58 {call : jv_F} {l1 l2 l3 : Option Value} {a : Nat} {st : List Value} {h : jv_H} : jv_ev call 56 58 [some (.ref a), l1, l2, l3] st h = jv_ev call 56 59 [some (.ref a), l1, l2, l3] (.ref a :: st) h := je_aload_n (r := some a) D56_58 rfl rfl
theorem D56_59 : decode (jt_code 56) 59 = .ok (.getfield 222, 3) := by decide +kernel
theorem E56_59 {call : jv_F} {l0 l1 l2 l3 : Option Value}  {st : List Value} {m : Nat} {I : Nat → Int32} {A : Nat → Nat → Int32} {L : Nat → Nat → Int64} {rest : Nat → Option jv_C} {z : Nat × Nat} : jv_ev call 56 59 [l0, l1, l2, l3] (.ref m :: st) (jm_H m I A L rest z) = jv_ev call 56 62 [l0, l1, l2, l3] (.int (I 40) :: st) (jm_H m I A L rest z) := je_get D56_59 rfl (by decide) jm_g40
theorem D56_62 : decode (jt_code 56) 62 = .ok (.ireturn, 1) := by decide +kernel
theorem E56_62 {call : jv_F} {l0 l1 l2 l3 : Option Value} {v : Int32} {h : jv_H} : jv_ev call 56 62 [l0, l1, l2, l3] [.int v] h = some (some (.int v), h) := je_iret (ty := .int) D56_62 rfl rfl rfl
theorem D56_63 : decode (jt_code 56) 63 = .ok (.aload_n 0, 1) := by decide +kernel
theorem E56_63 {call : jv_F} {l1 l2 l3 : Option Value} {a : Nat} {st : List Value} {h : jv_H} : jv_ev call 56 63 [some (.ref a), l1, l2, l3] st h = jv_ev call 56 64 [some (.ref a), l1, l2, l3] (.ref a :: st) h := je_aload_n (r := some a) D56_63 rfl rfl
theorem D56_64 : decode (jt_code 56) 64 = .ok (.getfield 170, 3) := by decide +kernel
theorem E56_64 {call : jv_F} {l0 l1 l2 l3 : Option Value}  {st : List Value} {m : Nat} {I : Nat → Int32} {A : Nat → Nat → Int32} {L : Nat → Nat → Int64} {rest : Nat → Option jv_C} {z : Nat × Nat} : jv_ev call 56 64 [l0, l1, l2, l3] (.ref m :: st) (jm_H m I A L rest z) = jv_ev call 56 67 [l0, l1, l2, l3] (.int (I 41) :: st) (jm_H m I A L rest z) := je_get D56_64 rfl (by decide) jm_g41
theorem D56_67 : decode (jt_code 56) 67 = .ok (.ireturn, 1) := by decide +kernel
theorem E56_67 {call : jv_F} {l0 l1 l2 l3 : Option Value} {v : Int32} {h : jv_H} : jv_ev call 56 67 [l0, l1, l2, l3] [.int v] h = some (some (.int v), h) := je_iret (ty := .int) D56_67 rfl rfl rfl
theorem D56_68 : decode (jt_code 56) 68 = .ok (.aload_n 0, 1) := by decide +kernel
theorem E56_68 {call : jv_F} {l1 l2 l3 : Option Value} {a : Nat} {st : List Value} {h : jv_H} : jv_ev call 56 68 [some (.ref a), l1, l2, l3] st h = jv_ev call 56 69 [some (.ref a), l1, l2, l3] (.ref a :: st) h := je_aload_n (r := some a) D56_68 rfl rfl
theorem D56_69 : decode (jt_code 56) 69 = .ok (.getfield 188, 3) := by decide +kernel
theorem E56_69 {call : jv_F} {l0 l1 l2 l3 : Option Value}  {st : List Value} {m : Nat} {I : Nat → Int32} {A : Nat → Nat → Int32} {L : Nat → Nat → Int64} {rest : Nat → Option jv_C} {z : Nat × Nat} : jv_ev call 56 69 [l0, l1, l2, l3] (.ref m :: st) (jm_H m I A L rest z) = jv_ev call 56 72 [l0, l1, l2, l3] (.int (I 42) :: st) (jm_H m I A L rest z) := je_get D56_69 rfl (by decide) jm_g42
theorem D56_72 : decode (jt_code 56) 72 = .ok (.ireturn, 1) := by decide +kernel
theorem E56_72 {call : jv_F} {l0 l1 l2 l3 : Option Value} {v : Int32} {h : jv_H} : jv_ev call 56 72 [l0, l1, l2, l3] [.int v] h = some (some (.int v), h) := je_iret (ty := .int) D56_72 rfl rfl rfl
theorem D56_73 : decode (jt_code 56) 73 = .ok (.aload_n 0, 1) := by decide +kernel
theorem E56_73 {call : jv_F} {l1 l2 l3 : Option Value} {a : Nat} {st : List Value} {h : jv_H} : jv_ev call 56 73 [some (.ref a), l1, l2, l3] st h = jv_ev call 56 74 [some (.ref a), l1, l2, l3] (.ref a :: st) h := je_aload_n (r := some a) D56_73 rfl rfl
theorem D56_74 : decode (jt_code 56) 74 = .ok (.getfield 110, 3) := by decide +kernel
theorem E56_74 {call : jv_F} {l0 l1 l2 l3 : Option Value}  {st : List Value} {m : Nat} {I : Nat → Int32} {A : Nat → Nat → Int32} {L : Nat → Nat → Int64} {rest : Nat → Option jv_C} {z : Nat × Nat} : jv_ev call 56 74 [l0, l1, l2, l3] (.ref m :: st) (jm_H m I A L rest z) = jv_ev call 56 77 [l0, l1, l2, l3] (.int (I 22) :: st) (jm_H m I A L rest z) := je_get D56_74 rfl (by decide) jm_g22
theorem D56_77 : decode (jt_code 56) 77 = .ok (.ireturn, 1) := by decide +kernel
theorem E56_77 {call : jv_F} {l0 l1 l2 l3 : Option Value} {v : Int32} {h : jv_H} : jv_ev call 56 77 [l0, l1, l2, l3] [.int v] h = some (some (.int v), h) := je_iret (ty := .int) D56_77 rfl rfl rfl
theorem D56_78 : decode (jt_code 56) 78 = .ok (.iconst 0, 1) := by decide +kernel
theorem E56_78 {call : jv_F} {l0 l1 l2 l3 : Option Value}  {st : List Value} {h : jv_H} : jv_ev call 56 78 [l0, l1, l2, l3] st h = jv_ev call 56 79 [l0, l1, l2, l3] (.int (nI 0) :: st) h := je_iconst D56_78 rfl (by decide)
theorem D56_79 : decode (jt_code 56) 79 = .ok (.istore_n 3, 1) := by decide +kernel
theorem E56_79 {call : jv_F} {l0 l1 l2 l3 : Option Value} {x : Int32} {st : List Value} {h : jv_H} (hk : ¬ jv_is2 (some l2) = true) : jv_ev call 56 79 [l0, l1, l2, l3] (.int x :: st) h = jv_ev call 56 80 [l0, l1, l2, some (.int x)] st h := je_istore_n D56_79 rfl (Nat.le_of_ble_eq_true rfl) (by show jv_st1 _ 3 _ = _; simp only [jv_st1, jv_kill, List.getElem?_cons_succ, List.getElem?_cons_zero, hk, if_false]; rfl)
theorem D56_80 : decode (jt_code 56) 80 = .ok (.iload_n 3, 1) := by decide +kernel
theorem E56_80 {call : jv_F} {l0 l1 l2 : Option Value} {x : Int32} {st : List Value} {h : jv_H} : jv_ev call 56 80 [l0, l1, l2, some (.int x)] st h = jv_ev call 56 81 [l0, l1, l2, some (.int x)] (.int x :: st) h := je_iload_n D56_80 rfl rfl
theorem D56_81 : decode (jt_code 56) 81 = .ok (.aload_n 0, 1) := by decide +kernel
theorem E56_81 {call : jv_F} {l1 l2 l3 : Option Value} {a : Nat} {st : List Value} {h : jv_H} : jv_ev call 56 81 [some (.ref a), l1, l2, l3] st h = jv_ev call 56 82 [some (.ref a), l1, l2, l3] (.ref a :: st) h := je_aload_n (r := some a) D56_81 rfl rfl
theorem D56_82 : decode (jt_code 56) 82 = .ok (.getfield 97, 3) := by decide +kernel
theorem E56_82 {call : jv_F} {l0 l1 l2 l3 : Option Value}  {st : List Value} {m : Nat} {I : Nat → Int32} {A : Nat → Nat → Int32} {L : Nat → Nat → Int64} {rest : Nat → Option jv_C} {z : Nat × Nat} : jv_ev call 56 82 [l0, l1, l2, l3] (.ref m :: st) (jm_H m I A L rest z) = jv_ev call 56 85 [l0, l1, l2, l3] (.int (I 5) :: st) (jm_H m I A L rest z) := je_get D56_82 rfl (by decide) jm_g5
theorem D56_85 : decode (jt_code 56) 85 = .ok (.if_icmp .ge 25, 3) := by decide +kernel
theorem E56_85 {call : jv_F} {l0 l1 l2 l3 : Option Value} {x y : Int32} {st : List Value} {h : jv_H} : jv_ev call 56 85 [l0, l1, l2, l3] (.int y :: .int x :: st) h = if y ≤ x then jv_ev call 56 110 [l0, l1, l2, l3] st h else jv_ev call 56 88 [l0, l1, l2, l3] st h := je_icmp D56_85 (by decide) rfl rfl
theorem D56_88 : decode (jt_code 56) 88 = .ok (.iload_n 2, 1) := by decide +kernel
theorem E56_88 {call : jv_F} {l0 l1 l3 : Option Value} {x : Int32} {st : List Value} {h : jv_H} : jv_ev call 56 88 [l0, l1, some (.int x), l3] st h = jv_ev call 56 89 [l0, l1, some (.int x), l3] (.int x :: st) h := je_iload_n D56_88 rfl rfl
theorem D56_89 : decode (jt_code 56) 89 = .ok (.aload_n 0, 1) := by decide +kernel
theorem E56_89 {call : jv_F} {l1 l2 l3 : Option Value} {a : Nat} {st : List Value} {h : jv_H} : jv_ev call 56 89 [some (.ref a), l1, l2, l3] st h = jv_ev call 56 90 [some (.ref a), l1, l2, l3] (.ref a :: st) h := je_aload_n (r := some a) D56_89 rfl rfl
theorem D56_90 : decode (jt_code 56) 90 = .ok (.iload_n 3, 1) := by decide +kernel
theorem E56_90 {call : jv_F} {l0 l1 l2 : Option Value} {x : Int32} {st : List Value} {h : jv_H} : jv_ev call 56 90 [l0, l1, l2, some (.int x)] st h = jv_ev call 56 91 [l0, l1, l2, some (.int x)] (.int x :: st) h := je_iload_n D56_90 rfl rfl
theorem D56_91 : decode (jt_code 56) 91 = .ok (.invokevirtual 125, 3) := by decide +kernel
theorem E56_91 {call : jv_F} {l0 l1 l2 l3 : Option Value} {v0 : Value}  {st : List Value} {m : Nat} {I : Nat → Int32} {A : Nat → Nat → Int32} {L : Nat → Nat → Int64} {rest : Nat → Option jv_C} {z : Nat × Nat} (hw : jv_wide st = true) (hc : (call 12 [.ref m, v0] (jm_H m I A L rest z)).isSome = true) : jv_ev call 56 91 [l0, l1, l2, l3] (v0 :: .ref m :: st) (jm_H m I A L rest z) = jv_ev call 56 94 [l0, l1, l2, l3] ((((call 12 [.ref m, v0] (jm_H m I A L rest z)).getD (none, (jm_H m I A L rest z))).1).toList ++ st) ((call 12 [.ref m, v0] (jm_H m I A L rest z)).getD (none, (jm_H m I A L rest z))).2 := by
  obtain ⟨⟨r, h'⟩, hv⟩ := Option.isSome_iff_exists.mp hc
  rw [hv]
  exact je_virt (y := 12) (as := [v0]) D56_91 rfl (by decide) (by decide) rfl jm_cl hw hv
theorem D56_94 : decode (jt_code 56) 94 = .ok (.ifCond .eq 7, 3) := by decide +kernel
theorem E56_94 {call : jv_F} {l0 l1 l2 l3 : Option Value} {x : Int32} {st : List Value} {h : jv_H} : jv_ev call 56 94 [l0, l1, l2, l3] (.int x :: st) h = if x = 0 then jv_ev call 56 101 [l0, l1, l2, l3] st h else jv_ev call 56 97 [l0, l1, l2, l3] st h := je_ifc D56_94 (by decide) rfl rfl
theorem D56_97 : decode (jt_code 56) 97 = .ok (.iconst 1, 1) := by decide +kernel
theorem E56_97 {call : jv_F} {l0 l1 l2 l3 : Option Value}  {st : List Value} {h : jv_H} : jv_ev call 56 97 [l0, l1, l2, l3] st h = jv_ev call 56 98 [l0, l1, l2, l3] (.int (nI 1) :: st) h := je_iconst D56_97 rfl (by decide)
theorem D56_98 : decode (jt_code 56) 98 = .ok (.goto 4, 3) := by decide +kernel
theorem E56_98 {call : jv_F} {l0 l1 l2 l3 : Option Value}  {st : List Value} {h : jv_H} : jv_ev call 56 98 [l0, l1, l2, l3] st h = jv_ev call 56 102 [l0, l1, l2, l3] st h := je_goto D56_98 (by decide)
theorem D56_101 : decode (jt_code 56) 101 = .ok (.iconst 0, 1) := by decide +kernel
theorem E56_101 {call : jv_F} {l0 l1 l2 l3 : Option Value}  {st : List Value} {h : jv_H} : jv_ev call 56 101 [l0, l1, l2, l3] st h = jv_ev call 56 102 [l0, l1, l2, l3] (.int (nI 0) :: st) h := je_iconst D56_101 rfl (by decide)
theorem D56_102 : decode (jt_code 56) 102 = .ok (.iadd, 1) := by decide +kernel
theorem E56_102 {call : jv_F} {l0 l1 l2 l3 : Option Value} {x y : Int32} {st : List Value} {h : jv_H} : jv_ev call 56 102 [l0, l1, l2, l3] (.int y :: .int x :: st) h = jv_ev call 56 103 [l0, l1, l2, l3] (.int (x + y) :: st) h := je_b2 (f := fun x y => x + y) D56_102 rfl (fun _ => rfl)
theorem D56_103 : decode (jt_code 56) 103 = .ok (.istore_n 2, 1) := by decide +kernel
theorem E56_103 {call : jv_F} {l0 l1 l2 l3 : Option Value} {x : Int32} {st : List Value} {h : jv_H} (hk : ¬ jv_is2 (some l1) = true) : jv_ev call 56 103 [l0, l1, l2, l3] (.int x :: st) h = jv_ev call 56 104 [l0, l1, some (.int x), l3] st h := je_istore_n D56_103 rfl (Nat.le_of_ble_eq_true rfl) (by show jv_st1 _ 2 _ = _; simp only [jv_st1, jv_kill, List.getElem?_cons_succ, List.getElem?_cons_zero, hk, if_false]; rfl)
theorem D56_104 : decode (jt_code 56) 104 = .ok (.iinc 3 1, 3) := by decide +kernel
theorem E56_104 {call : jv_F} {l0 l1 l2 : Option Value} {x : Int32} {st : List Value} {h : jv_H} (hk : ¬ jv_is2 (some l2) = true) : jv_ev call 56 104 [l0, l1, l2, some (.int x)] st h = jv_ev call 56 107 [l0, l1, l2, some (.int (x + (nI 1)))] st h := je_iinc D56_104 rfl rfl (v := x + (nI 1)) (by rfl) (by show jv_st1 _ 3 _ = _; simp only [jv_st1, jv_kill, List.getElem?_cons_succ, List.getElem?_cons_zero, hk, if_false]; rfl)
theorem D56_107 : decode (jt_code 56) 107 = .ok (.goto (-27), 3) := by decide +kernel
theorem E56_107 {call : jv_F} {l0 l1 l2 l3 : Option Value}  {st : List Value} {h : jv_H} : jv_ev call 56 107 [l0, l1, l2, l3] st h = jv_ev call 56 80 [l0, l1, l2, l3] st h := je_goto D56_107 (by decide)
theorem D56_110 : decode (jt_code 56) 110 = .ok (.iload_n 2, 1) := by decide +kernel
theorem E56_110 {call : jv_F} {l0 l1 l3 : Option Value} {x : Int32} {st : List Value} {h : jv_H} : jv_ev call 56 110 [l0, l1, some (.int x), l3] st h = jv_ev call 56 111 [l0, l1, some (.int x), l3] (.int x :: st) h := je_iload_n D56_110 rfl rfl
theorem D56_111 : decode (jt_code 56) 111 = .ok (.ireturn, 1) := by decide +kernel
theorem E56_111 {call : jv_F} {l0 l1 l2 l3 : Option Value} {v : Int32} {h : jv_H} : jv_ev call 56 111 [l0, l1, l2, l3] [.int v] h = some (some (.int v), h) := je_iret (ty := .int) D56_111 rfl rfl rfl
theorem D56_112 : decode (jt_code 56) 112 = .ok (.aload_n 0, 1) := by decide +kernel
theorem E56_112 {call : jv_F} {l1 l2 l3 : Option Value} {a : Nat} {st : List Value} {h : jv_H} : jv_ev call 56 112 [some (.ref a), l1, l2, l3] st h = jv_ev call 56 113 [some (.ref a), l1, l2, l3] (.ref a :: st) h := je_aload_n (r := some a) D56_112 rfl rfl
theorem D56_113 : decode (jt_code 56) 113 = .ok (.getfield 94, 3) := by decide +kernel
theorem E56_113 {call : jv_F} {l0 l1 l2 l3 : Option Value}  {st : List Value} {m : Nat} {I : Nat → Int32} {A : Nat → Nat → Int32} {L : Nat → Nat → Int64} {rest : Nat → Option jv_C} {z : Nat × Nat} : jv_ev call 56 113 [l0, l1, l2, l3] (.ref m :: st) (jm_H m I A L rest z) = jv_ev call 56 116 [l0, l1, l2, l3] (.int (I 37) :: st) (jm_H m I A L rest z) := je_get D56_113 rfl (by decide) jm_g37
theorem D56_116 : decode (jt_code 56) 116 = .ok (.ireturn, 1) := by decide +kernel
theorem E56_116 {call : jv_F} {l0 l1 l2 l3 : Option Value} {v : Int32} {h : jv_H} : jv_ev call 56 116 [l0, l1, l2, l3] [.int v] h = some (some (.int v), h) := je_iret (ty := .int) D56_116 rfl rfl rfl
theorem D56_117 : decode (jt_code 56) 117 = .ok (.iconst 0, 1) := by decide +kernel
theorem E56_117 {call : jv_F} {l0 l1 l2 l3 : Option Value}  {st : List Value} {h : jv_H} : jv_ev call 56 117 [l0, l1, l2, l3] st h = jv_ev call 56 118 [l0, l1, l2, l3] (.int (nI 0) :: st) h := je_iconst D56_117 rfl (by decide)
theorem D56_118 : decode (jt_code 56) 118 = .ok (.ireturn, 1) := by decide +kernel
theorem E56_118 {call : jv_F} {l0 l1 l2 l3 : Option Value} {v : Int32} {h : jv_H} : jv_ev call 56 118 [l0, l1, l2, l3] [.int v] h = some (some (.int v), h) := je_iret (ty := .int) D56_118 rfl rfl rfl
/-! method 57: DrumMachineModel.frame -/
theorem N57 {d : Nat} {b : Nat} {a0 : Int32} {a1 : Int32} {h : jv_H} : jv_run (d + 1) 57 [.ref b, .int a0, .int a1] h = jv_ev (jv_run d) 57 0 [some (.ref b), some (.int a0), some (.int a1), none] [] h := jv_run_eq (Nat.le_of_ble_eq_true rfl) rfl
theorem D57_0 : decode (jt_code 57) 0 = .ok (.iload_n 1, 1) := by decide +kernel
theorem E57_0 {call : jv_F} {l0 l2 l3 : Option Value} {x : Int32} {st : List Value} {h : jv_H} : jv_ev call 57 0 [l0, some (.int x), l2, l3] st h = jv_ev call 57 1 [l0, some (.int x), l2, l3] (.int x :: st) h := je_iload_n D57_0 rfl rfl
theorem D57_1 : decode (jt_code 57) 1 = .ok (.ifCond .lt 11, 3) := by decide +kernel
theorem E57_1 {call : jv_F} {l0 l1 l2 l3 : Option Value} {x : Int32} {st : List Value} {h : jv_H} : jv_ev call 57 1 [l0, l1, l2, l3] (.int x :: st) h = if x < 0 then jv_ev call 57 12 [l0, l1, l2, l3] st h else jv_ev call 57 4 [l0, l1, l2, l3] st h := je_ifc D57_1 (by decide) rfl rfl
theorem D57_4 : decode (jt_code 57) 4 = .ok (.iload_n 1, 1) := by decide +kernel
theorem E57_4 {call : jv_F} {l0 l2 l3 : Option Value} {x : Int32} {st : List Value} {h : jv_H} : jv_ev call 57 4 [l0, some (.int x), l2, l3] st h = jv_ev call 57 5 [l0, some (.int x), l2, l3] (.int x :: st) h := je_iload_n D57_4 rfl rfl
theorem D57_5 : decode (jt_code 57) 5 = .ok (.aload_n 0, 1) := by decide +kernel
theorem E57_5 {call : jv_F} {l1 l2 l3 : Option Value} {a : Nat} {st : List Value} {h : jv_H} : jv_ev call 57 5 [some (.ref a), l1, l2, l3] st h = jv_ev call 57 6 [some (.ref a), l1, l2, l3] (.ref a :: st) h := je_aload_n (r := some a) D57_5 rfl rfl
theorem D57_6 : decode (jt_code 57) 6 = .ok (.getfield 7, 3) := by decide +kernel
theorem E57_6 {call : jv_F} {l0 l1 l2 l3 : Option Value}  {st : List Value} {m : Nat} {I : Nat → Int32} {A : Nat → Nat → Int32} {L : Nat → Nat → Int64} {rest : Nat → Option jv_C} {z : Nat × Nat} : jv_ev call 57 6 [l0, l1, l2, l3] (.ref m :: st) (jm_H m I A L rest z) = jv_ev call 57 9 [l0, l1, l2, l3] (.int (I 0) :: st) (jm_H m I A L rest z) := je_get D57_6 rfl (by decide) jm_g0
theorem D57_9 : decode (jt_code 57) 9 = .ok (.if_icmp .lt 5, 3) := by decide +kernel
theorem E57_9 {call : jv_F} {l0 l1 l2 l3 : Option Value} {x y : Int32} {st : List Value} {h : jv_H} : jv_ev call 57 9 [l0, l1, l2, l3] (.int y :: .int x :: st) h = if x < y then jv_ev call 57 14 [l0, l1, l2, l3] st h else jv_ev call 57 12 [l0, l1, l2, l3] st h := je_icmp D57_9 (by decide) rfl rfl
theorem D57_12 : decode (jt_code 57) 12 = .ok (.iconst (-1), 1) := by decide +kernel
theorem E57_12 {call : jv_F} {l0 l1 l2 l3 : Option Value}  {st : List Value} {h : jv_H} : jv_ev call 57 12 [l0, l1, l2, l3] st h = jv_ev call 57 13 [l0, l1, l2, l3] (.int (-1) :: st) h := je_iconst D57_12 rfl (by decide)
theorem D57_13 : decode (jt_code 57) 13 = .ok (.ireturn, 1) := by decide +kernel
theorem E57_13 {call : jv_F} {l0 l1 l2 l3 : Option Value} {v : Int32} {h : jv_H} : jv_ev call 57 13 [l0, l1, l2, l3] [.int v] h = some (some (.int v), h) := je_iret (ty := .int) D57_13 rfl rfl rfl
theorem D57_14 : decode (jt_code 57) 14 = .ok (.aload_n 0, 1) := by decide +kernel
theorem E57_14 {call : jv_F} {l1 l2 l3 : Option Value} {a : Nat} {st : List Value} {h : jv_H} : jv_ev call 57 14 [some (.ref a), l1, l2, l3] st h = jv_ev call 57 15 [some (.ref a), l1, l2, l3] (.ref a :: st) h := je_aload_n (r := some a) D57_14 rfl rfl
theorem D57_15 : decode (jt_code 57) 15 = .ok (.getfield 70, 3) := by decide +kernel
theorem E57_15 {call : jv_F} {l0 l1 l2 l3 : Option Value}  {st : List Value} {m : Nat} {I : Nat → Int32} {A : Nat → Nat → Int32} {L : Nat → Nat → Int64} {rest : Nat → Option jv_C} {z : Nat × Nat} : jv_ev call 57 15 [l0, l1, l2, l3] (.ref m :: st) (jm_H m I A L rest z) = jv_ev call 57 18 [l0, l1, l2, l3] (.ref (m + 19) :: st) (jm_H m I A L rest z) := je_get D57_15 rfl (by decide) jm_g23
theorem D57_18 : decode (jt_code 57) 18 = .ok (.iload_n 1, 1) := by decide +kernel
theorem E57_18 {call : jv_F} {l0 l2 l3 : Option Value} {x : Int32} {st : List Value} {h : jv_H} : jv_ev call 57 18 [l0, some (.int x), l2, l3] st h = jv_ev call 57 19 [l0, some (.int x), l2, l3] (.int x :: st) h := je_iload_n D57_18 rfl rfl
theorem D57_19 : decode (jt_code 57) 19 = .ok (.iaload, 1) := by decide +kernel
theorem E57_19 {call : jv_F} {l0 l1 l2 l3 : Option Value} {i : Nat} {st : List Value} {m : Nat} {I : Nat → Int32} {A : Nat → Nat → Int32} {L : Nat → Nat → Int64} {rest : Nat → Option jv_C} {z : Nat × Nat} (hi : i < 17) : jv_ev call 57 19 [l0, l1, l2, l3] (.int (nI i) :: .ref (m + 19) :: st) (jm_H m I A L rest z) = jv_ev call 57 20 [l0, l1, l2, l3] (.int (A 23 i) :: st) (jm_H m I A L rest z) := je_iald D57_19 rfl (jm_l23 hi)
theorem D57_20 : decode (jt_code 57) 20 = .ok (.ifCond .lt 7, 3) := by decide +kernel
theorem E57_20 {call : jv_F} {l0 l1 l2 l3 : Option Value} {x : Int32} {st : List Value} {h : jv_H} : jv_ev call 57 20 [l0, l1, l2, l3] (.int x :: st) h = if x < 0 then jv_ev call 57 27 [l0, l1, l2, l3] st h else jv_ev call 57 23 [l0, l1, l2, l3] st h := je_ifc D57_20 (by decide) rfl rfl
theorem D57_23 : decode (jt_code 57) 23 = .ok (.iconst 1, 1) := by decide +kernel
theorem E57_23 {call : jv_F} {l0 l1 l2 l3 : Option Value}  {st : List Value} {h : jv_H} : jv_ev call 57 23 [l0, l1, l2, l3] st h = jv_ev call 57 24 [l0, l1, l2, l3] (.int (nI 1) :: st) h := je_iconst D57_23 rfl (by decide)
theorem D57_24 : decode (jt_code 57) 24 = .ok (.goto 4, 3) := by decide +kernel
theorem E57_24 {call : jv_F} {l0 l1 l2 l3 : Option Value}  {st : List Value} {h : jv_H} : jv_ev call 57 24 [l0, l1, l2, l3] st h = jv_ev call 57 28 [l0, l1, l2, l3] st h := je_goto D57_24 (by decide)
theorem D57_27 : decode (jt_code 57) 27 = .ok (.iconst 0, 1) := by decide +kernel
theorem E57_27 {call : jv_F} {l0 l1 l2 l3 : Option Value}  {st : List Value} {h : jv_H} : jv_ev call 57 27 [l0, l1, l2, l3] st h = jv_ev call 57 28 [l0, l1, l2, l3] (.int (nI 0) :: st) h := je_iconst D57_27 rfl (by decide)
theorem D57_28 : decode (jt_code 57) 28 = .ok (.istore_n 3, 1) := by decide +kernel
theorem E57_28 {call : jv_F} {l0 l1 l2 l3 : Option Value} {x : Int32} {st : List Value} {h : jv_H} (hk : ¬ jv_is2 (some l2) = true) : jv_ev call 57 28 [l0, l1, l2, l3] (.int x :: st) h = jv_ev call 57 29 [l0, l1, l2, some (.int x)] st h := je_istore_n D57_28 rfl (Nat.le_of_ble_eq_true rfl) (by show jv_st1 _ 3 _ = _; simp only [jv_st1, jv_kill, List.getElem?_cons_succ, List.getElem?_cons_zero, hk, if_false]; rfl)
theorem D57_29 : decode (jt_code 57) 29 = .ok (.iload_n 2, 1) := by decide +kernel
theorem E57_29 {call : jv_F} {l0 l1 l3 : Option Value} {x : Int32} {st : List Value} {h : jv_H} : jv_ev call 57 29 [l0, l1, some (.int x), l3] st h = jv_ev call 57 30 [l0, l1, some (.int x), l3] (.int x :: st) h := je_iload_n D57_29 rfl rfl
theorem D57_30 : decode (jt_code 57) 30 = .ok (.tableswitch 133 0 4 #[34, 52, 70, 85, 109], 34) := by decide +kernel
theorem E57_30 {call : jv_F} {l0 l1 l2 l3 : Option Value} {x : Int32} {st : List Value} {h : jv_H} : jv_ev call 57 30 [l0, l1, l2, l3] (.int x :: st) h = if x = (nI 0) then jv_ev call 57 64 [l0, l1, l2, l3] st h else (if x = (nI 1) then jv_ev call 57 82 [l0, l1, l2, l3] st h else (if x = (nI 2) then jv_ev call 57 100 [l0, l1, l2, l3] st h else (if x = (nI 3) then jv_ev call 57 115 [l0, l1, l2, l3] st h else (if x = (nI 4) then jv_ev call 57 139 [l0, l1, l2, l3] st h else (jv_ev call 57 163 [l0, l1, l2, l3] st h))))) := by
  by_cases h0 : x = nI 0
  · subst h0
    exact je_next D57_30 rfl
  by_cases h1 : x = nI 1
  · subst h1
    exact je_next D57_30 rfl
  by_cases h2 : x = nI 2
  · subst h2
    exact je_next D57_30 rfl
  by_cases h3 : x = nI 3
  · subst h3
    exact je_next D57_30 rfl
  by_cases h4 : x = nI 4
  · subst h4
    exact je_next D57_30 rfl
  rw [if_neg h0]
  rw [if_neg h1]
  rw [if_neg h2]
  rw [if_neg h3]
  rw [if_neg h4]
  refine je_next D57_30 ?_
  simp only [jv_ins]
  rw [if_pos (show x.toInt < 0 ∨ 4 < x.toInt from jv_tab (lo := 0) (hi := 4) (fun k hk1 hk2 => by
    rcases (show k = 0 ∨ k = 1 ∨ k = 2 ∨ k = 3 ∨ k = 4 by omega) with rfl | rfl | rfl | rfl | rfl
    · exact h0
    · exact h1
    · exact h2
    · exact h3
    · exact h4) (by decide))]
  exact jv_go_eq (by decide)
theorem D57_64 : decode (jt_code 57) 64 = .ok (.iload_n 3, 1) := by decide +kernel
theorem E57_64 {call : jv_F} {l0 l1 l2 : Option Value} {x : Int32} {st : List Value} {h : jv_H} : jv_ev call 57 64 [l0, l1, l2, some (.int x)] st h = jv_ev call 57 65 [l0, l1, l2, some (.int x)] (.int x :: st) h := je_iload_n D57_64 rfl rfl
theorem D57_65 : decode (jt_code 57) 65 = .ok (.ifCond .eq 15, 3) := by decide +kernel
theorem E57_65 {call : jv_F} {l0 l1 l2 l3 : Option Value} {x : Int32} {st : List Value} {h : jv_H} : jv_ev call 57 65 [l0, l1, l2, l3] (.int x :: st) h = if x = 0 then jv_ev call 57 80 [l0, l1, l2, l3] st h else jv_ev call 57 68 [l0, l1, l2, l3] st h := je_ifc D57_65 (by decide) rfl rfl
theorem D57_68 : decode (jt_code 57) 68 = .ok (.aload_n 0, 1) := by decide +kernel
theorem E57_68 {call : jv_F} {l1 l2 l3 : Option Value} {a : Nat} {st : List Value} {h : jv_H} : jv_ev call 57 68 [some (.ref a), l1, l2, l3] st h = jv_ev call 57 69 [some (.ref a), l1, l2, l3] (.ref a :: st) h := je_aload_n (r := some a) D57_68 rfl rfl
theorem D57_69 : decode (jt_code 57) 69 = .ok (.getfield 70, 3) := by decide +kernel
theorem E57_69 {call : jv_F} {l0 l1 l2 l3 : Option Value}  {st : List Value} {m : Nat} {I : Nat → Int32} {A : Nat → Nat → Int32} {L : Nat → Nat → Int64} {rest : Nat → Option jv_C} {z : Nat × Nat} : jv_ev call 57 69 [l0, l1, l2, l3] (.ref m :: st) (jm_H m I A L rest z) = jv_ev call 57 72 [l0, l1, l2, l3] (.ref (m + 19) :: st) (jm_H m I A L rest z) := je_get D57_69 rfl (by decide) jm_g23
theorem D57_72 : decode (jt_code 57) 72 = .ok (.iload_n 1, 1) := by decide +kernel
theorem E57_72 {call : jv_F} {l0 l2 l3 : Option Value} {x : Int32} {st : List Value} {h : jv_H} : jv_ev call 57 72 [l0, some (.int x), l2, l3] st h = jv_ev call 57 73 [l0, some (.int x), l2, l3] (.int x :: st) h := je_iload_n D57_72 rfl rfl
theorem D57_73 : decode (jt_code 57) 73 = .ok (.iaload, 1) := by decide +kernel
theorem E57_73 {call : jv_F} {l0 l1 l2 l3 : Option Value} {i : Nat} {st : List Value} {m : Nat} {I : Nat → Int32} {A : Nat → Nat → Int32} {L : Nat → Nat → Int64} {rest : Nat → Option jv_C} {z : Nat × Nat} (hi : i < 17) : jv_ev call 57 73 [l0, l1, l2, l3] (.int (nI i) :: .ref (m + 19) :: st) (jm_H m I A L rest z) = jv_ev call 57 74 [l0, l1, l2, l3] (.int (A 23 i) :: st) (jm_H m I A L rest z) := je_iald D57_73 rfl (jm_l23 hi)
theorem D57_74 : decode (jt_code 57) 74 = .ok (.bipush 64, 2) := by decide +kernel
theorem E57_74 {call : jv_F} {l0 l1 l2 l3 : Option Value}  {st : List Value} {h : jv_H} : jv_ev call 57 74 [l0, l1, l2, l3] st h = jv_ev call 57 76 [l0, l1, l2, l3] (.int (nI 64) :: st) h := je_bipush D57_74 rfl (by decide)
theorem D57_76 : decode (jt_code 57) 76 = .ok (.idiv, 1) := by decide +kernel
theorem E57_76 {call : jv_F} {l0 l1 l2 l3 : Option Value} {x y : Int32} {st : List Value} {h : jv_H} (hy : ¬ y = 0) : jv_ev call 57 76 [l0, l1, l2, l3] (.int y :: .int x :: st) h = jv_ev call 57 77 [l0, l1, l2, l3] (.int (x / y) :: st) h := je_idiv D57_76 rfl hy
theorem D57_77 : decode (jt_code 57) 77 = .ok (.goto 4, 3) := by decide +kernel
theorem E57_77 {call : jv_F} {l0 l1 l2 l3 : Option Value}  {st : List Value} {h : jv_H} : jv_ev call 57 77 [l0, l1, l2, l3] st h = jv_ev call 57 81 [l0, l1, l2, l3] st h := je_goto D57_77 (by decide)
theorem D57_80 : decode (jt_code 57) 80 = .ok (.iconst (-1), 1) := by decide +kernel
theorem E57_80 {call : jv_F} {l0 l1 l2 l3 : Option Value}  {st : List Value} {h : jv_H} : jv_ev call 57 80 [l0, l1, l2, l3] st h = jv_ev call 57 81 [l0, l1, l2, l3] (.int (-1) :: st) h := je_iconst D57_80 rfl (by decide)
theorem D57_81 : decode (jt_code 57) 81 = .ok (.ireturn, 1) := by decide +kernel
theorem E57_81 {call : jv_F} {l0 l1 l2 l3 : Option Value} {v : Int32} {h : jv_H} : jv_ev call 57 81 [l0, l1, l2, l3] [.int v] h = some (some (.int v), h) := je_iret (ty := .int) D57_81 rfl rfl rfl
theorem D57_82 : decode (jt_code 57) 82 = .ok (.iload_n 3, 1) := by decide +kernel
theorem E57_82 {call : jv_F} {l0 l1 l2 : Option Value} {x : Int32} {st : List Value} {h : jv_H} : jv_ev call 57 82 [l0, l1, l2, some (.int x)] st h = jv_ev call 57 83 [l0, l1, l2, some (.int x)] (.int x :: st) h := je_iload_n D57_82 rfl rfl
theorem D57_83 : decode (jt_code 57) 83 = .ok (.ifCond .eq 15, 3) := by decide +kernel
theorem E57_83 {call : jv_F} {l0 l1 l2 l3 : Option Value} {x : Int32} {st : List Value} {h : jv_H} : jv_ev call 57 83 [l0, l1, l2, l3] (.int x :: st) h = if x = 0 then jv_ev call 57 98 [l0, l1, l2, l3] st h else jv_ev call 57 86 [l0, l1, l2, l3] st h := je_ifc D57_83 (by decide) rfl rfl
theorem D57_86 : decode (jt_code 57) 86 = .ok (.aload_n 0, 1) := by decide +kernel
theorem E57_86 {call : jv_F} {l1 l2 l3 : Option Value} {a : Nat} {st : List Value} {h : jv_H} : jv_ev call 57 86 [some (.ref a), l1, l2, l3] st h = jv_ev call 57 87 [some (.ref a), l1, l2, l3] (.ref a :: st) h := je_aload_n (r := some a) D57_86 rfl rfl
theorem D57_87 : decode (jt_code 57) 87 = .ok (.getfield 70, 3) := by decide +kernel
theorem E57_87 {call : jv_F} {l0 l1 l2 l3 : Option Value}  {st : List Value} {m : Nat} {I : Nat → Int32} {A : Nat → Nat → Int32} {L : Nat → Nat → Int64} {rest : Nat → Option jv_C} {z : Nat × Nat} : jv_ev call 57 87 [l0, l1, l2, l3] (.ref m :: st) (jm_H m I A L rest z) = jv_ev call 57 90 [l0, l1, l2, l3] (.ref (m + 19) :: st) (jm_H m I A L rest z) := je_get D57_87 rfl (by decide) jm_g23
theorem D57_90 : decode (jt_code 57) 90 = .ok (.iload_n 1, 1) := by decide +kernel
theorem E57_90 {call : jv_F} {l0 l2 l3 : Option Value} {x : Int32} {st : List Value} {h : jv_H} : jv_ev call 57 90 [l0, some (.int x), l2, l3] st h = jv_ev call 57 91 [l0, some (.int x), l2, l3] (.int x :: st) h := je_iload_n D57_90 rfl rfl
theorem D57_91 : decode (jt_code 57) 91 = .ok (.iaload, 1) := by decide +kernel
theorem E57_91 {call : jv_F} {l0 l1 l2 l3 : Option Value} {i : Nat} {st : List Value} {m : Nat} {I : Nat → Int32} {A : Nat → Nat → Int32} {L : Nat → Nat → Int64} {rest : Nat → Option jv_C} {z : Nat × Nat} (hi : i < 17) : jv_ev call 57 91 [l0, l1, l2, l3] (.int (nI i) :: .ref (m + 19) :: st) (jm_H m I A L rest z) = jv_ev call 57 92 [l0, l1, l2, l3] (.int (A 23 i) :: st) (jm_H m I A L rest z) := je_iald D57_91 rfl (jm_l23 hi)
theorem D57_92 : decode (jt_code 57) 92 = .ok (.bipush 64, 2) := by decide +kernel
theorem E57_92 {call : jv_F} {l0 l1 l2 l3 : Option Value}  {st : List Value} {h : jv_H} : jv_ev call 57 92 [l0, l1, l2, l3] st h = jv_ev call 57 94 [l0, l1, l2, l3] (.int (nI 64) :: st) h := je_bipush D57_92 rfl (by decide)
theorem D57_94 : decode (jt_code 57) 94 = .ok (.irem, 1) := by decide +kernel
theorem E57_94 {call : jv_F} {l0 l1 l2 l3 : Option Value} {x y : Int32} {st : List Value} {h : jv_H} (hy : ¬ y = 0) : jv_ev call 57 94 [l0, l1, l2, l3] (.int y :: .int x :: st) h = jv_ev call 57 95 [l0, l1, l2, l3] (.int (x - x / y * y) :: st) h := je_irem D57_94 rfl hy
theorem D57_95 : decode (jt_code 57) 95 = .ok (.goto 4, 3) := by decide +kernel
theorem E57_95 {call : jv_F} {l0 l1 l2 l3 : Option Value}  {st : List Value} {h : jv_H} : jv_ev call 57 95 [l0, l1, l2, l3] st h = jv_ev call 57 99 [l0, l1, l2, l3] st h := je_goto D57_95 (by decide)
theorem D57_98 : decode (jt_code 57) 98 = .ok (.iconst (-1), 1) := by decide +kernel
theorem E57_98 {call : jv_F} {l0 l1 l2 l3 : Option Value}  {st : List Value} {h : jv_H} : jv_ev call 57 98 [l0, l1, l2, l3] st h = jv_ev call 57 99 [l0, l1, l2, l3] (.int (-1) :: st) h := je_iconst D57_98 rfl (by decide)
theorem D57_99 : decode (jt_code 57) 99 = .ok (.ireturn, 1) := by decide +kernel
theorem E57_99 {call : jv_F} {l0 l1 l2 l3 : Option Value} {v : Int32} {h : jv_H} : jv_ev call 57 99 [l0, l1, l2, l3] [.int v] h = some (some (.int v), h) := je_iret (ty := .int) D57_99 rfl rfl rfl
theorem D57_100 : decode (jt_code 57) 100 = .ok (.aload_n 0, 1) := by decide +kernel
theorem E57_100 {call : jv_F} {l1 l2 l3 : Option Value} {a : Nat} {st : List Value} {h : jv_H} : jv_ev call 57 100 [some (.ref a), l1, l2, l3] st h = jv_ev call 57 101 [some (.ref a), l1, l2, l3] (.ref a :: st) h := je_aload_n (r := some a) D57_100 rfl rfl
theorem D57_101 : decode (jt_code 57) 101 = .ok (.getfield 79, 3) := by decide +kernel
theorem E57_101 {call : jv_F} {l0 l1 l2 l3 : Option Value}  {st : List Value} {m : Nat} {I : Nat → Int32} {A : Nat → Nat → Int32} {L : Nat → Nat → Int64} {rest : Nat → Option jv_C} {z : Nat × Nat} : jv_ev call 57 101 [l0, l1, l2, l3] (.ref m :: st) (jm_H m I A L rest z) = jv_ev call 57 104 [l0, l1, l2, l3] (.ref (m + 22) :: st) (jm_H m I A L rest z) := je_get D57_101 rfl (by decide) jm_g26
theorem D57_104 : decode (jt_code 57) 104 = .ok (.iload_n 1, 1) := by decide +kernel
theorem E57_104 {call : jv_F} {l0 l2 l3 : Option Value} {x : Int32} {st : List Value} {h : jv_H} : jv_ev call 57 104 [l0, some (.int x), l2, l3] st h = jv_ev call 57 105 [l0, some (.int x), l2, l3] (.int x :: st) h := je_iload_n D57_104 rfl rfl
theorem D57_105 : decode (jt_code 57) 105 = .ok (.baload, 1) := by decide +kernel
theorem E57_105 {call : jv_F} {l0 l1 l2 l3 : Option Value} {i : Nat} {st : List Value} {m : Nat} {I : Nat → Int32} {A : Nat → Nat → Int32} {L : Nat → Nat → Int64} {rest : Nat → Option jv_C} {z : Nat × Nat} (hi : i < 17) : jv_ev call 57 105 [l0, l1, l2, l3] (.int (nI i) :: .ref (m + 22) :: st) (jm_H m I A L rest z) = jv_ev call 57 106 [l0, l1, l2, l3] (.int (A 26 i) :: st) (jm_H m I A L rest z) := je_bald D57_105 rfl (jm_l26 hi)
theorem D57_106 : decode (jt_code 57) 106 = .ok (.ifCond .eq 7, 3) := by decide +kernel
theorem E57_106 {call : jv_F} {l0 l1 l2 l3 : Option Value} {x : Int32} {st : List Value} {h : jv_H} : jv_ev call 57 106 [l0, l1, l2, l3] (.int x :: st) h = if x = 0 then jv_ev call 57 113 [l0, l1, l2, l3] st h else jv_ev call 57 109 [l0, l1, l2, l3] st h := je_ifc D57_106 (by decide) rfl rfl
theorem D57_109 : decode (jt_code 57) 109 = .ok (.iconst 1, 1) := by decide +kernel
theorem E57_109 {call : jv_F} {l0 l1 l2 l3 : Option Value}  {st : List Value} {h : jv_H} : jv_ev call 57 109 [l0, l1, l2, l3] st h = jv_ev call 57 110 [l0, l1, l2, l3] (.int (nI 1) :: st) h := je_iconst D57_109 rfl (by decide)
theorem D57_110 : decode (jt_code 57) 110 = .ok (.goto 4, 3) := by decide +kernel
theorem E57_110 {call : jv_F} {l0 l1 l2 l3 : Option Value}  {st : List Value} {h : jv_H} : jv_ev call 57 110 [l0, l1, l2, l3] st h = jv_ev call 57 114 [l0, l1, l2, l3] st h := je_goto D57_110 (by decide)
theorem D57_113 : decode (jt_code 57) 113 = .ok (.iconst 0, 1) := by decide +kernel
theorem E57_113 {call : jv_F} {l0 l1 l2 l3 : Option Value}  {st : List Value} {h : jv_H} : jv_ev call 57 113 [l0, l1, l2, l3] st h = jv_ev call 57 114 [l0, l1, l2, l3] (.int (nI 0) :: st) h := je_iconst D57_113 rfl (by decide)
theorem D57_114 : decode (jt_code 57) 114 = .ok (.ireturn, 1) := by decide +kernel
theorem E57_114 {call : jv_F} {l0 l1 l2 l3 : Option Value} {v : Int32} {h : jv_H} : jv_ev call 57 114 [l0, l1, l2, l3] [.int v] h = some (some (.int v), h) := je_iret (ty := .int) D57_114 rfl rfl rfl
theorem D57_115 : decode (jt_code 57) 115 = .ok (.iload_n 3, 1) := by decide +kernel
theorem E57_115 {call : jv_F} {l0 l1 l2 : Option Value} {x : Int32} {st : List Value} {h : jv_H} : jv_ev call 57 115 [l0, l1, l2, some (.int x)] st h = jv_ev call 57 116 [l0, l1, l2, some (.int x)] (.int x :: st) h := je_iload_n D57_115 rfl rfl
theorem D57_116 : decode (jt_code 57) 116 = .ok (.ifCond .eq 21, 3) := by decide +kernel
theorem E57_116 {call : jv_F} {l0 l1 l2 l3 : Option Value} {x : Int32} {st : List Value} {h : jv_H} : jv_ev call 57 116 [l0, l1, l2, l3] (.int x :: st) h = if x = 0 then jv_ev call 57 137 [l0, l1, l2, l3] st h else jv_ev call 57 119 [l0, l1, l2, l3] st h := je_ifc D57_116 (by decide) rfl rfl
theorem D57_119 : decode (jt_code 57) 119 = .ok (.aload_n 0, 1) := by decide +kernel
theorem E57_119 {call : jv_F} {l1 l2 l3 : Option Value} {a : Nat} {st : List Value} {h : jv_H} : jv_ev call 57 119 [some (.ref a), l1, l2, l3] st h = jv_ev call 57 120 [some (.ref a), l1, l2, l3] (.ref a :: st) h := je_aload_n (r := some a) D57_119 rfl rfl
theorem D57_120 : decode (jt_code 57) 120 = .ok (.getfield 79, 3) := by decide +kernel
theorem E57_120 {call : jv_F} {l0 l1 l2 l3 : Option Value}  {st : List Value} {m : Nat} {I : Nat → Int32} {A : Nat → Nat → Int32} {L : Nat → Nat → Int64} {rest : Nat → Option jv_C} {z : Nat × Nat} : jv_ev call 57 120 [l0, l1, l2, l3] (.ref m :: st) (jm_H m I A L rest z) = jv_ev call 57 123 [l0, l1, l2, l3] (.ref (m + 22) :: st) (jm_H m I A L rest z) := je_get D57_120 rfl (by decide) jm_g26
theorem D57_123 : decode (jt_code 57) 123 = .ok (.iload_n 1, 1) := by decide +kernel
theorem E57_123 {call : jv_F} {l0 l2 l3 : Option Value} {x : Int32} {st : List Value} {h : jv_H} : jv_ev call 57 123 [l0, some (.int x), l2, l3] st h = jv_ev call 57 124 [l0, some (.int x), l2, l3] (.int x :: st) h := je_iload_n D57_123 rfl rfl
theorem D57_124 : decode (jt_code 57) 124 = .ok (.baload, 1) := by decide +kernel
theorem E57_124 {call : jv_F} {l0 l1 l2 l3 : Option Value} {i : Nat} {st : List Value} {m : Nat} {I : Nat → Int32} {A : Nat → Nat → Int32} {L : Nat → Nat → Int64} {rest : Nat → Option jv_C} {z : Nat × Nat} (hi : i < 17) : jv_ev call 57 124 [l0, l1, l2, l3] (.int (nI i) :: .ref (m + 22) :: st) (jm_H m I A L rest z) = jv_ev call 57 125 [l0, l1, l2, l3] (.int (A 26 i) :: st) (jm_H m I A L rest z) := je_bald D57_124 rfl (jm_l26 hi)
theorem D57_125 : decode (jt_code 57) 125 = .ok (.ifCond .ne 12, 3) := by decide +kernel
theorem E57_125 {call : jv_F} {l0 l1 l2 l3 : Option Value} {x : Int32} {st : List Value} {h : jv_H} : jv_ev call 57 125 [l0, l1, l2, l3] (.int x :: st) h = if ¬ x = 0 then jv_ev call 57 137 [l0, l1, l2, l3] st h else jv_ev call 57 128 [l0, l1, l2, l3] st h := je_ifc D57_125 (by decide) rfl rfl
theorem D57_128 : decode (jt_code 57) 128 = .ok (.aload_n 0, 1) := by decide +kernel
theorem E57_128 {call : jv_F} {l1 l2 l3 : Option Value} {a : Nat} {st : List Value} {h : jv_H} : jv_ev call 57 128 [some (.ref a), l1, l2, l3] st h = jv_ev call 57 129 [some (.ref a), l1, l2, l3] (.ref a :: st) h := je_aload_n (r := some a) D57_128 rfl rfl
theorem D57_129 : decode (jt_code 57) 129 = .ok (.getfield 73, 3) := by decide +kernel
theorem E57_129 {call : jv_F} {l0 l1 l2 l3 : Option Value}  {st : List Value} {m : Nat} {I : Nat → Int32} {A : Nat → Nat → Int32} {L : Nat → Nat → Int64} {rest : Nat → Option jv_C} {z : Nat × Nat} : jv_ev call 57 129 [l0, l1, l2, l3] (.ref m :: st) (jm_H m I A L rest z) = jv_ev call 57 132 [l0, l1, l2, l3] (.ref (m + 20) :: st) (jm_H m I A L rest z) := je_get D57_129 rfl (by decide) jm_g24
theorem D57_132 : decode (jt_code 57) 132 = .ok (.iload_n 1, 1) := by decide +kernel
theorem E57_132 {call : jv_F} {l0 l2 l3 : Option Value} {x : Int32} {st : List Value} {h : jv_H} : jv_ev call 57 132 [l0, some (.int x), l2, l3] st h = jv_ev call 57 133 [l0, some (.int x), l2, l3] (.int x :: st) h := je_iload_n D57_132 rfl rfl
theorem D57_133 : decode (jt_code 57) 133 = .ok (.iaload, 1) := by decide +kernel
theorem E57_133 {call : jv_F} {l0 l1 l2 l3 : Option Value} {i : Nat} {st : List Value} {m : Nat} {I : Nat → Int32} {A : Nat → Nat → Int32} {L : Nat → Nat → Int64} {rest : Nat → Option jv_C} {z : Nat × Nat} (hi : i < 17) : jv_ev call 57 133 [l0, l1, l2, l3] (.int (nI i) :: .ref (m + 20) :: st) (jm_H m I A L rest z) = jv_ev call 57 134 [l0, l1, l2, l3] (.int (A 24 i) :: st) (jm_H m I A L rest z) := je_iald D57_133 rfl (jm_l24 hi)
theorem D57_134 : decode (jt_code 57) 134 = .ok (.goto 4, 3) := by decide +kernel
theorem E57_134 {call : jv_F} {l0 l1 l2 l3 : Option Value}  {st : List Value} {h : jv_H} : jv_ev call 57 134 [l0, l1, l2, l3] st h = jv_ev call 57 138 [l0, l1, l2, l3] st h := je_goto D57_134 (by decide)
theorem D57_137 : decode (jt_code 57) 137 = .ok (.iconst 0, 1) := by decide +kernel
theorem E57_137 {call : jv_F} {l0 l1 l2 l3 : Option Value}  {st : List Value} {h : jv_H} : jv_ev call 57 137 [l0, l1, l2, l3] st h = jv_ev call 57 138 [l0, l1, l2, l3] (.int (nI 0) :: st) h := je_iconst D57_137 rfl (by decide)
theorem D57_138 : decode (jt_code 57) 138 = .ok (.ireturn, 1) := by decide +kernel
theorem E57_138 {call : jv_F} {l0 l1 l2 l3 : Option Value} {v : Int32} {h : jv_H} : jv_ev call 57 138 [l0, l1, l2, l3] [.int v] h = some (some (.int v), h) := je_iret (ty := .int) D57_138 rfl rfl rfl
theorem D57_139 : decode (jt_code 57) 139 = .ok (.iload_n 3, 1) := by decide +kernel
theorem E57_139 {call : jv_F} {l0 l1 l2 : Option Value} {x : Int32} {st : List Value} {h : jv_H} : jv_ev call 57 139 [l0, l1, l2, some (.int x)] st h = jv_ev call 57 140 [l0, l1, l2, some (.int x)] (.int x :: st) h := je_iload_n D57_139 rfl rfl
theorem D57_140 : decode (jt_code 57) 140 = .ok (.ifCond .eq 21, 3) := by decide +kernel
theorem E57_140 {call : jv_F} {l0 l1 l2 l3 : Option Value} {x : Int32} {st : List Value} {h : jv_H} : jv_ev call 57 140 [l0, l1, l2, l3] (.int x :: st) h = if x = 0 then jv_ev call 57 161 [l0, l1, l2, l3] st h else jv_ev call 57 143 [l0, l1, l2, l3] st h := je_ifc D57_140 (by decide) rfl rfl
theorem D57_143 : decode (jt_code 57) 143 = .ok (.aload_n 0, 1) := by decide +kernel
theorem E57_143 {call : jv_F} {l1 l2 l3 : Option Value} {a : Nat} {st : List Value} {h : jv_H} : jv_ev call 57 143 [some (.ref a), l1, l2, l3] st h = jv_ev call 57 144 [some (.ref a), l1, l2, l3] (.ref a :: st) h := je_aload_n (r := some a) D57_143 rfl rfl
theorem D57_144 : decode (jt_code 57) 144 = .ok (.getfield 79, 3) := by decide +kernel
theorem E57_144 {call : jv_F} {l0 l1 l2 l3 : Option Value}  {st : List Value} {m : Nat} {I : Nat → Int32} {A : Nat → Nat → Int32} {L : Nat → Nat → Int64} {rest : Nat → Option jv_C} {z : Nat × Nat} : jv_ev call 57 144 [l0, l1, l2, l3] (.ref m :: st) (jm_H m I A L rest z) = jv_ev call 57 147 [l0, l1, l2, l3] (.ref (m + 22) :: st) (jm_H m I A L rest z) := je_get D57_144 rfl (by decide) jm_g26
theorem D57_147 : decode (jt_code 57) 147 = .ok (.iload_n 1, 1) := by decide +kernel
theorem E57_147 {call : jv_F} {l0 l2 l3 : Option Value} {x : Int32} {st : List Value} {h : jv_H} : jv_ev call 57 147 [l0, some (.int x), l2, l3] st h = jv_ev call 57 148 [l0, some (.int x), l2, l3] (.int x :: st) h := je_iload_n D57_147 rfl rfl
theorem D57_148 : decode (jt_code 57) 148 = .ok (.baload, 1) := by decide +kernel
theorem E57_148 {call : jv_F} {l0 l1 l2 l3 : Option Value} {i : Nat} {st : List Value} {m : Nat} {I : Nat → Int32} {A : Nat → Nat → Int32} {L : Nat → Nat → Int64} {rest : Nat → Option jv_C} {z : Nat × Nat} (hi : i < 17) : jv_ev call 57 148 [l0, l1, l2, l3] (.int (nI i) :: .ref (m + 22) :: st) (jm_H m I A L rest z) = jv_ev call 57 149 [l0, l1, l2, l3] (.int (A 26 i) :: st) (jm_H m I A L rest z) := je_bald D57_148 rfl (jm_l26 hi)
theorem D57_149 : decode (jt_code 57) 149 = .ok (.ifCond .ne 12, 3) := by decide +kernel
theorem E57_149 {call : jv_F} {l0 l1 l2 l3 : Option Value} {x : Int32} {st : List Value} {h : jv_H} : jv_ev call 57 149 [l0, l1, l2, l3] (.int x :: st) h = if ¬ x = 0 then jv_ev call 57 161 [l0, l1, l2, l3] st h else jv_ev call 57 152 [l0, l1, l2, l3] st h := je_ifc D57_149 (by decide) rfl rfl
theorem D57_152 : decode (jt_code 57) 152 = .ok (.aload_n 0, 1) := by decide +kernel
theorem E57_152 {call : jv_F} {l1 l2 l3 : Option Value} {a : Nat} {st : List Value} {h : jv_H} : jv_ev call 57 152 [some (.ref a), l1, l2, l3] st h = jv_ev call 57 153 [some (.ref a), l1, l2, l3] (.ref a :: st) h := je_aload_n (r := some a) D57_152 rfl rfl
theorem D57_153 : decode (jt_code 57) 153 = .ok (.getfield 76, 3) := by decide +kernel
theorem E57_153 {call : jv_F} {l0 l1 l2 l3 : Option Value}  {st : List Value} {m : Nat} {I : Nat → Int32} {A : Nat → Nat → Int32} {L : Nat → Nat → Int64} {rest : Nat → Option jv_C} {z : Nat × Nat} : jv_ev call 57 153 [l0, l1, l2, l3] (.ref m :: st) (jm_H m I A L rest z) = jv_ev call 57 156 [l0, l1, l2, l3] (.ref (m + 21) :: st) (jm_H m I A L rest z) := je_get D57_153 rfl (by decide) jm_g25
theorem D57_156 : decode (jt_code 57) 156 = .ok (.iload_n 1, 1) := by decide +kernel
theorem E57_156 {call : jv_F} {l0 l2 l3 : Option Value} {x : Int32} {st : List Value} {h : jv_H} : jv_ev call 57 156 [l0, some (.int x), l2, l3] st h = jv_ev call 57 157 [l0, some (.int x), l2, l3] (.int x :: st) h := je_iload_n D57_156 rfl rfl
theorem D57_157 : decode (jt_code 57) 157 = .ok (.iaload, 1) := by decide +kernel
theorem E57_157 {call : jv_F} {l0 l1 l2 l3 : Option Value} {i : Nat} {st : List Value} {m : Nat} {I : Nat → Int32} {A : Nat → Nat → Int32} {L : Nat → Nat → Int64} {rest : Nat → Option jv_C} {z : Nat × Nat} (hi : i < 17) : jv_ev call 57 157 [l0, l1, l2, l3] (.int (nI i) :: .ref (m + 21) :: st) (jm_H m I A L rest z) = jv_ev call 57 158 [l0, l1, l2, l3] (.int (A 25 i) :: st) (jm_H m I A L rest z) := je_iald D57_157 rfl (jm_l25 hi)
theorem D57_158 : decode (jt_code 57) 158 = .ok (.goto 4, 3) := by decide +kernel
theorem E57_158 {call : jv_F} {l0 l1 l2 l3 : Option Value}  {st : List Value} {h : jv_H} : jv_ev call 57 158 [l0, l1, l2, l3] st h = jv_ev call 57 162 [l0, l1, l2, l3] st h := je_goto D57_158 (by decide)
theorem D57_161 : decode (jt_code 57) 161 = .ok (.iconst 0, 1) := by decide +kernel
theorem E57_161 {call : jv_F} {l0 l1 l2 l3 : Option Value}  {st : List Value} {h : jv_H} : jv_ev call 57 161 [l0, l1, l2, l3] st h = jv_ev call 57 162 [l0, l1, l2, l3] (.int (nI 0) :: st) h := je_iconst D57_161 rfl (by decide)
theorem D57_162 : decode (jt_code 57) 162 = .ok (.ireturn, 1) := by decide +kernel
theorem E57_162 {call : jv_F} {l0 l1 l2 l3 : Option Value} {v : Int32} {h : jv_H} : jv_ev call 57 162 [l0, l1, l2, l3] [.int v] h = some (some (.int v), h) := je_iret (ty := .int) D57_162 rfl rfl rfl
theorem D57_163 : decode (jt_code 57) 163 = .ok (.iconst (-1), 1) := by decide +kernel
theorem E57_163 {call : jv_F} {l0 l1 l2 l3 : Option Value}  {st : List Value} {h : jv_H} : jv_ev call 57 163 [l0, l1, l2, l3] st h = jv_ev call 57 164 [l0, l1, l2, l3] (.int (-1) :: st) h := je_iconst D57_163 rfl (by decide)
theorem D57_164 : decode (jt_code 57) 164 = .ok (.ireturn, 1) := by decide +kernel
theorem E57_164 {call : jv_F} {l0 l1 l2 l3 : Option Value} {v : Int32} {h : jv_H} : jv_ev call 57 164 [l0, l1, l2, l3] [.int v] h = some (some (.int v), h) := je_iret (ty := .int) D57_164 rfl rfl rfl
/-! method 59: DrumMachineModel.digest -/
theorem N59 {d : Nat} {b : Nat} {h : jv_H} : jv_run (d + 1) 59 [.ref b] h = jv_ev (jv_run d) 59 0 [some (.ref b), none, none, none, none] [] h := jv_run_eq (Nat.le_of_ble_eq_true rfl) rfl
theorem D59_0 : decode (jt_code 59) 0 = .ok (.ldc2_w 300, 3) := by decide +kernel
theorem E59_0 {call : jv_F} {l0 l1 l2 l3 l4 : Option Value}  {st : List Value} {h : jv_H} : jv_ev call 59 0 [l0, l1, l2, l3, l4] st h = jv_ev call 59 3 [l0, l1, l2, l3, l4] (.long 7 :: st) h := je_ldc2 D59_0 rfl (by decide)
theorem D59_3 : decode (jt_code 59) 3 = .ok (.lstore_n 1, 1) := by decide +kernel
theorem E59_3 {call : jv_F} {l0 l1 l2 l3 l4 : Option Value} {x : Int64} {st : List Value} {h : jv_H} (hk : ¬ jv_is2 (some l0) = true) : jv_ev call 59 3 [l0, l1, l2, l3, l4] (.long x :: st) h = jv_ev call 59 4 [l0, some (.long x), none, l3, l4] st h := je_lstore_n D59_3 rfl (Nat.le_of_ble_eq_true rfl) (by show jv_st2 _ 1 _ = _; simp only [jv_st2, jv_kill, List.getElem?_cons_succ, List.getElem?_cons_zero, hk, if_false]; rfl)
theorem D59_4 : decode (jt_code 59) 4 = .ok (.iconst 0, 1) := by decide +kernel
theorem E59_4 {call : jv_F} {l0 l1 l2 l3 l4 : Option Value}  {st : List Value} {h : jv_H} : jv_ev call 59 4 [l0, l1, l2, l3, l4] st h = jv_ev call 59 5 [l0, l1, l2, l3, l4] (.int (nI 0) :: st) h := je_iconst D59_4 rfl (by decide)
theorem D59_5 : decode (jt_code 59) 5 = .ok (.istore_n 3, 1) := by decide +kernel
theorem E59_5 {call : jv_F} {l0 l1 l2 l3 l4 : Option Value} {x : Int32} {st : List Value} {h : jv_H} (hk : ¬ jv_is2 (some l2) = true) : jv_ev call 59 5 [l0, l1, l2, l3, l4] (.int x :: st) h = jv_ev call 59 6 [l0, l1, l2, some (.int x), l4] st h := je_istore_n D59_5 rfl (Nat.le_of_ble_eq_true rfl) (by show jv_st1 _ 3 _ = _; simp only [jv_st1, jv_kill, List.getElem?_cons_succ, List.getElem?_cons_zero, hk, if_false]; rfl)
theorem D59_6 : decode (jt_code 59) 6 = .ok (.iload_n 3, 1) := by decide +kernel
theorem E59_6 {call : jv_F} {l0 l1 l2 l4 : Option Value} {x : Int32} {st : List Value} {h : jv_H} : jv_ev call 59 6 [l0, l1, l2, some (.int x), l4] st h = jv_ev call 59 7 [l0, l1, l2, some (.int x), l4] (.int x :: st) h := je_iload_n D59_6 rfl rfl
theorem D59_7 : decode (jt_code 59) 7 = .ok (.aload_n 0, 1) := by decide +kernel
theorem E59_7 {call : jv_F} {l1 l2 l3 l4 : Option Value} {a : Nat} {st : List Value} {h : jv_H} : jv_ev call 59 7 [some (.ref a), l1, l2, l3, l4] st h = jv_ev call 59 8 [some (.ref a), l1, l2, l3, l4] (.ref a :: st) h := je_aload_n (r := some a) D59_7 rfl rfl
theorem D59_8 : decode (jt_code 59) 8 = .ok (.getfield 97, 3) := by decide +kernel
theorem E59_8 {call : jv_F} {l0 l1 l2 l3 l4 : Option Value}  {st : List Value} {m : Nat} {I : Nat → Int32} {A : Nat → Nat → Int32} {L : Nat → Nat → Int64} {rest : Nat → Option jv_C} {z : Nat × Nat} : jv_ev call 59 8 [l0, l1, l2, l3, l4] (.ref m :: st) (jm_H m I A L rest z) = jv_ev call 59 11 [l0, l1, l2, l3, l4] (.int (I 5) :: st) (jm_H m I A L rest z) := je_get D59_8 rfl (by decide) jm_g5
theorem D59_11 : decode (jt_code 59) 11 = .ok (.if_icmp .ge 147, 3) := by decide +kernel
theorem E59_11 {call : jv_F} {l0 l1 l2 l3 l4 : Option Value} {x y : Int32} {st : List Value} {h : jv_H} : jv_ev call 59 11 [l0, l1, l2, l3, l4] (.int y :: .int x :: st) h = if y ≤ x then jv_ev call 59 158 [l0, l1, l2, l3, l4] st h else jv_ev call 59 14 [l0, l1, l2, l3, l4] st h := je_icmp D59_11 (by decide) rfl rfl
theorem D59_14 : decode (jt_code 59) 14 = .ok (.lload_n 1, 1) := by decide +kernel
theorem E59_14 {call : jv_F} {l0 l2 l3 l4 : Option Value} {x : Int64} {st : List Value} {h : jv_H} : jv_ev call 59 14 [l0, some (.long x), l2, l3, l4] st h = jv_ev call 59 15 [l0, some (.long x), l2, l3, l4] (.long x :: st) h := je_lload_n D59_14 rfl rfl
theorem D59_15 : decode (jt_code 59) 15 = .ok (.ldc2_w 302, 3) := by decide +kernel
theorem E59_15 {call : jv_F} {l0 l1 l2 l3 l4 : Option Value}  {st : List Value} {h : jv_H} : jv_ev call 59 15 [l0, l1, l2, l3, l4] st h = jv_ev call 59 18 [l0, l1, l2, l3, l4] (.long 31 :: st) h := je_ldc2 D59_15 rfl (by decide)
theorem D59_18 : decode (jt_code 59) 18 = .ok (.lmul, 1) := by decide +kernel
theorem E59_18 {call : jv_F} {l0 l1 l2 l3 l4 : Option Value} {x y : Int64} {st : List Value} {h : jv_H} : jv_ev call 59 18 [l0, l1, l2, l3, l4] (.long y :: .long x :: st) h = jv_ev call 59 19 [l0, l1, l2, l3, l4] (.long (x * y) :: st) h := je_l2 (f := fun x y => x * y) D59_18 rfl (fun _ => rfl)
theorem D59_19 : decode (jt_code 59) 19 = .ok (.aload_n 0, 1) := by decide +kernel
theorem E59_19 {call : jv_F} {l1 l2 l3 l4 : Option Value} {a : Nat} {st : List Value} {h : jv_H} : jv_ev call 59 19 [some (.ref a), l1, l2, l3, l4] st h = jv_ev call 59 20 [some (.ref a), l1, l2, l3, l4] (.ref a :: st) h := je_aload_n (r := some a) D59_19 rfl rfl
theorem D59_20 : decode (jt_code 59) 20 = .ok (.getfield 24, 3) := by decide +kernel
theorem E59_20 {call : jv_F} {l0 l1 l2 l3 l4 : Option Value}  {st : List Value} {m : Nat} {I : Nat → Int32} {A : Nat → Nat → Int32} {L : Nat → Nat → Int64} {rest : Nat → Option jv_C} {z : Nat × Nat} : jv_ev call 59 20 [l0, l1, l2, l3, l4] (.ref m :: st) (jm_H m I A L rest z) = jv_ev call 59 23 [l0, l1, l2, l3, l4] (.ref (m + 4) :: st) (jm_H m I A L rest z) := je_get D59_20 rfl (by decide) jm_g7
theorem D59_23 : decode (jt_code 59) 23 = .ok (.iload_n 3, 1) := by decide +kernel
theorem E59_23 {call : jv_F} {l0 l1 l2 l4 : Option Value} {x : Int32} {st : List Value} {h : jv_H} : jv_ev call 59 23 [l0, l1, l2, some (.int x), l4] st h = jv_ev call 59 24 [l0, l1, l2, some (.int x), l4] (.int x :: st) h := je_iload_n D59_23 rfl rfl
theorem D59_24 : decode (jt_code 59) 24 = .ok (.iaload, 1) := by decide +kernel
theorem E59_24 {call : jv_F} {l0 l1 l2 l3 l4 : Option Value} {i : Nat} {st : List Value} {m : Nat} {I : Nat → Int32} {A : Nat → Nat → Int32} {L : Nat → Nat → Int64} {rest : Nat → Option jv_C} {z : Nat × Nat} (hi : i < 12) : jv_ev call 59 24 [l0, l1, l2, l3, l4] (.int (nI i) :: .ref (m + 4) :: st) (jm_H m I A L rest z) = jv_ev call 59 25 [l0, l1, l2, l3, l4] (.int (A 7 i) :: st) (jm_H m I A L rest z) := je_iald D59_24 rfl (jm_l7 hi)
theorem D59_25 : decode (jt_code 59) 25 = .ok (.i2l, 1) := by decide +kernel
theorem E59_25 {call : jv_F} {l0 l1 l2 l3 l4 : Option Value} {x : Int32} {st : List Value} {h : jv_H} : jv_ev call 59 25 [l0, l1, l2, l3, l4] (.int x :: st) h = jv_ev call 59 26 [l0, l1, l2, l3, l4] (.long x.toInt64 :: st) h := je_i2l D59_25 rfl
theorem D59_26 : decode (jt_code 59) 26 = .ok (.ladd, 1) := by decide +kernel
theorem E59_26 {call : jv_F} {l0 l1 l2 l3 l4 : Option Value} {x y : Int64} {st : List Value} {h : jv_H} : jv_ev call 59 26 [l0, l1, l2, l3, l4] (.long y :: .long x :: st) h = jv_ev call 59 27 [l0, l1, l2, l3, l4] (.long (x + y) :: st) h := je_l2 (f := fun x y => x + y) D59_26 rfl (fun _ => rfl)
theorem D59_27 : decode (jt_code 59) 27 = .ok (.ldc2_w 302, 3) := by decide +kernel
theorem E59_27 {call : jv_F} {l0 l1 l2 l3 l4 : Option Value}  {st : List Value} {h : jv_H} : jv_ev call 59 27 [l0, l1, l2, l3, l4] st h = jv_ev call 59 30 [l0, l1, l2, l3, l4] (.long 31 :: st) h := je_ldc2 D59_27 rfl (by decide)
theorem D59_30 : decode (jt_code 59) 30 = .ok (.lmul, 1) := by decide +kernel
theorem E59_30 {call : jv_F} {l0 l1 l2 l3 l4 : Option Value} {x y : Int64} {st : List Value} {h : jv_H} : jv_ev call 59 30 [l0, l1, l2, l3, l4] (.long y :: .long x :: st) h = jv_ev call 59 31 [l0, l1, l2, l3, l4] (.long (x * y) :: st) h := je_l2 (f := fun x y => x * y) D59_30 rfl (fun _ => rfl)
theorem D59_31 : decode (jt_code 59) 31 = .ok (.aload_n 0, 1) := by decide +kernel
theorem E59_31 {call : jv_F} {l1 l2 l3 l4 : Option Value} {a : Nat} {st : List Value} {h : jv_H} : jv_ev call 59 31 [some (.ref a), l1, l2, l3, l4] st h = jv_ev call 59 32 [some (.ref a), l1, l2, l3, l4] (.ref a :: st) h := je_aload_n (r := some a) D59_31 rfl rfl
theorem D59_32 : decode (jt_code 59) 32 = .ok (.getfield 27, 3) := by decide +kernel
theorem E59_32 {call : jv_F} {l0 l1 l2 l3 l4 : Option Value}  {st : List Value} {m : Nat} {I : Nat → Int32} {A : Nat → Nat → Int32} {L : Nat → Nat → Int64} {rest : Nat → Option jv_C} {z : Nat × Nat} : jv_ev call 59 32 [l0, l1, l2, l3, l4] (.ref m :: st) (jm_H m I A L rest z) = jv_ev call 59 35 [l0, l1, l2, l3, l4] (.ref (m + 5) :: st) (jm_H m I A L rest z) := je_get D59_32 rfl (by decide) jm_g8
theorem D59_35 : decode (jt_code 59) 35 = .ok (.iload_n 3, 1) := by decide +kernel
theorem E59_35 {call : jv_F} {l0 l1 l2 l4 : Option Value} {x : Int32} {st : List Value} {h : jv_H} : jv_ev call 59 35 [l0, l1, l2, some (.int x), l4] st h = jv_ev call 59 36 [l0, l1, l2, some (.int x), l4] (.int x :: st) h := je_iload_n D59_35 rfl rfl
theorem D59_36 : decode (jt_code 59) 36 = .ok (.iaload, 1) := by decide +kernel
theorem E59_36 {call : jv_F} {l0 l1 l2 l3 l4 : Option Value} {i : Nat} {st : List Value} {m : Nat} {I : Nat → Int32} {A : Nat → Nat → Int32} {L : Nat → Nat → Int64} {rest : Nat → Option jv_C} {z : Nat × Nat} (hi : i < 12) : jv_ev call 59 36 [l0, l1, l2, l3, l4] (.int (nI i) :: .ref (m + 5) :: st) (jm_H m I A L rest z) = jv_ev call 59 37 [l0, l1, l2, l3, l4] (.int (A 8 i) :: st) (jm_H m I A L rest z) := je_iald D59_36 rfl (jm_l8 hi)
theorem D59_37 : decode (jt_code 59) 37 = .ok (.i2l, 1) := by decide +kernel
theorem E59_37 {call : jv_F} {l0 l1 l2 l3 l4 : Option Value} {x : Int32} {st : List Value} {h : jv_H} : jv_ev call 59 37 [l0, l1, l2, l3, l4] (.int x :: st) h = jv_ev call 59 38 [l0, l1, l2, l3, l4] (.long x.toInt64 :: st) h := je_i2l D59_37 rfl
theorem D59_38 : decode (jt_code 59) 38 = .ok (.ladd, 1) := by decide +kernel
theorem E59_38 {call : jv_F} {l0 l1 l2 l3 l4 : Option Value} {x y : Int64} {st : List Value} {h : jv_H} : jv_ev call 59 38 [l0, l1, l2, l3, l4] (.long y :: .long x :: st) h = jv_ev call 59 39 [l0, l1, l2, l3, l4] (.long (x + y) :: st) h := je_l2 (f := fun x y => x + y) D59_38 rfl (fun _ => rfl)
theorem D59_39 : decode (jt_code 59) 39 = .ok (.ldc2_w 302, 3) := by decide +kernel
theorem E59_39 {call : jv_F} {l0 l1 l2 l3 l4 : Option Value}  {st : List Value} {h : jv_H} : jv_ev call 59 39 [l0, l1, l2, l3, l4] st h = jv_ev call 59 42 [l0, l1, l2, l3, l4] (.long 31 :: st) h := je_ldc2 D59_39 rfl (by decide)
theorem D59_42 : decode (jt_code 59) 42 = .ok (.lmul, 1) := by decide +kernel
theorem E59_42 {call : jv_F} {l0 l1 l2 l3 l4 : Option Value} {x y : Int64} {st : List Value} {h : jv_H} : jv_ev call 59 42 [l0, l1, l2, l3, l4] (.long y :: .long x :: st) h = jv_ev call 59 43 [l0, l1, l2, l3, l4] (.long (x * y) :: st) h := je_l2 (f := fun x y => x * y) D59_42 rfl (fun _ => rfl)
theorem D59_43 : decode (jt_code 59) 43 = .ok (.aload_n 0, 1) := by decide +kernel
theorem E59_43 {call : jv_F} {l1 l2 l3 l4 : Option Value} {a : Nat} {st : List Value} {h : jv_H} : jv_ev call 59 43 [some (.ref a), l1, l2, l3, l4] st h = jv_ev call 59 44 [some (.ref a), l1, l2, l3, l4] (.ref a :: st) h := je_aload_n (r := some a) D59_43 rfl rfl
theorem D59_44 : decode (jt_code 59) 44 = .ok (.getfield 54, 3) := by decide +kernel
theorem E59_44 {call : jv_F} {l0 l1 l2 l3 l4 : Option Value}  {st : List Value} {m : Nat} {I : Nat → Int32} {A : Nat → Nat → Int32} {L : Nat → Nat → Int64} {rest : Nat → Option jv_C} {z : Nat × Nat} : jv_ev call 59 44 [l0, l1, l2, l3, l4] (.ref m :: st) (jm_H m I A L rest z) = jv_ev call 59 47 [l0, l1, l2, l3, l4] (.ref (m + 14) :: st) (jm_H m I A L rest z) := je_get D59_44 rfl (by decide) jm_g17
theorem D59_47 : decode (jt_code 59) 47 = .ok (.iload_n 3, 1) := by decide +kernel
theorem E59_47 {call : jv_F} {l0 l1 l2 l4 : Option Value} {x : Int32} {st : List Value} {h : jv_H} : jv_ev call 59 47 [l0, l1, l2, some (.int x), l4] st h = jv_ev call 59 48 [l0, l1, l2, some (.int x), l4] (.int x :: st) h := je_iload_n D59_47 rfl rfl
theorem D59_48 : decode (jt_code 59) 48 = .ok (.iaload, 1) := by decide +kernel
theorem E59_48 {call : jv_F} {l0 l1 l2 l3 l4 : Option Value} {i : Nat} {st : List Value} {m : Nat} {I : Nat → Int32} {A : Nat → Nat → Int32} {L : Nat → Nat → Int64} {rest : Nat → Option jv_C} {z : Nat × Nat} (hi : i < 12) : jv_ev call 59 48 [l0, l1, l2, l3, l4] (.int (nI i) :: .ref (m + 14) :: st) (jm_H m I A L rest z) = jv_ev call 59 49 [l0, l1, l2, l3, l4] (.int (A 17 i) :: st) (jm_H m I A L rest z) := je_iald D59_48 rfl (jm_l17 hi)
theorem D59_49 : decode (jt_code 59) 49 = .ok (.i2l, 1) := by decide +kernel
theorem E59_49 {call : jv_F} {l0 l1 l2 l3 l4 : Option Value} {x : Int32} {st : List Value} {h : jv_H} : jv_ev call 59 49 [l0, l1, l2, l3, l4] (.int x :: st) h = jv_ev call 59 50 [l0, l1, l2, l3, l4] (.long x.toInt64 :: st) h := je_i2l D59_49 rfl
theorem D59_50 : decode (jt_code 59) 50 = .ok (.ladd, 1) := by decide +kernel
theorem E59_50 {call : jv_F} {l0 l1 l2 l3 l4 : Option Value} {x y : Int64} {st : List Value} {h : jv_H} : jv_ev call 59 50 [l0, l1, l2, l3, l4] (.long y :: .long x :: st) h = jv_ev call 59 51 [l0, l1, l2, l3, l4] (.long (x + y) :: st) h := je_l2 (f := fun x y => x + y) D59_50 rfl (fun _ => rfl)
theorem D59_51 : decode (jt_code 59) 51 = .ok (.lstore_n 1, 1) := by decide +kernel
theorem E59_51 {call : jv_F} {l0 l1 l2 l3 l4 : Option Value} {x : Int64} {st : List Value} {h : jv_H} (hk : ¬ jv_is2 (some l0) = true) : jv_ev call 59 51 [l0, l1, l2, l3, l4] (.long x :: st) h = jv_ev call 59 52 [l0, some (.long x), none, l3, l4] st h := je_lstore_n D59_51 rfl (Nat.le_of_ble_eq_true rfl) (by show jv_st2 _ 1 _ = _; simp only [jv_st2, jv_kill, List.getElem?_cons_succ, List.getElem?_cons_zero, hk, if_false]; rfl)
theorem D59_52 : decode (jt_code 59) 52 = .ok (.iconst 0, 1) := by decide +kernel
theorem E59_52 {call : jv_F} {l0 l1 l2 l3 l4 : Option Value}  {st : List Value} {h : jv_H} : jv_ev call 59 52 [l0, l1, l2, l3, l4] st h = jv_ev call 59 53 [l0, l1, l2, l3, l4] (.int (nI 0) :: st) h := je_iconst D59_52 rfl (by decide)
theorem D59_53 : decode (jt_code 59) 53 = .ok (.istore 4, 2) := by decide +kernel
theorem E59_53 {call : jv_F} {l0 l1 l2 l3 l4 : Option Value} {x : Int32} {st : List Value} {h : jv_H} (hk : ¬ jv_is2 (some l3) = true) : jv_ev call 59 53 [l0, l1, l2, l3, l4] (.int x :: st) h = jv_ev call 59 55 [l0, l1, l2, l3, some (.int x)] st h := je_istore D59_53 rfl (Nat.le_of_ble_eq_true rfl) (by show jv_st1 _ 4 _ = _; simp only [jv_st1, jv_kill, List.getElem?_cons_succ, List.getElem?_cons_zero, hk, if_false]; rfl)
theorem D59_55 : decode (jt_code 59) 55 = .ok (.iload 4, 2) := by decide +kernel
theorem E59_55 {call : jv_F} {l0 l1 l2 l3 : Option Value} {x : Int32} {st : List Value} {h : jv_H} : jv_ev call 59 55 [l0, l1, l2, l3, some (.int x)] st h = jv_ev call 59 57 [l0, l1, l2, l3, some (.int x)] (.int x :: st) h := je_iload D59_55 rfl rfl
theorem D59_57 : decode (jt_code 59) 57 = .ok (.aload_n 0, 1) := by decide +kernel
theorem E59_57 {call : jv_F} {l1 l2 l3 l4 : Option Value} {a : Nat} {st : List Value} {h : jv_H} : jv_ev call 59 57 [some (.ref a), l1, l2, l3, l4] st h = jv_ev call 59 58 [some (.ref a), l1, l2, l3, l4] (.ref a :: st) h := je_aload_n (r := some a) D59_57 rfl rfl
theorem D59_58 : decode (jt_code 59) 58 = .ok (.getfield 54, 3) := by decide +kernel
theorem E59_58 {call : jv_F} {l0 l1 l2 l3 l4 : Option Value}  {st : List Value} {m : Nat} {I : Nat → Int32} {A : Nat → Nat → Int32} {L : Nat → Nat → Int64} {rest : Nat → Option jv_C} {z : Nat × Nat} : jv_ev call 59 58 [l0, l1, l2, l3, l4] (.ref m :: st) (jm_H m I A L rest z) = jv_ev call 59 61 [l0, l1, l2, l3, l4] (.ref (m + 14) :: st) (jm_H m I A L rest z) := je_get D59_58 rfl (by decide) jm_g17
theorem D59_61 : decode (jt_code 59) 61 = .ok (.iload_n 3, 1) := by decide +kernel
theorem E59_61 {call : jv_F} {l0 l1 l2 l4 : Option Value} {x : Int32} {st : List Value} {h : jv_H} : jv_ev call 59 61 [l0, l1, l2, some (.int x), l4] st h = jv_ev call 59 62 [l0, l1, l2, some (.int x), l4] (.int x :: st) h := je_iload_n D59_61 rfl rfl
theorem D59_62 : decode (jt_code 59) 62 = .ok (.iaload, 1) := by decide +kernel
theorem E59_62 {call : jv_F} {l0 l1 l2 l3 l4 : Option Value} {i : Nat} {st : List Value} {m : Nat} {I : Nat → Int32} {A : Nat → Nat → Int32} {L : Nat → Nat → Int64} {rest : Nat → Option jv_C} {z : Nat × Nat} (hi : i < 12) : jv_ev call 59 62 [l0, l1, l2, l3, l4] (.int (nI i) :: .ref (m + 14) :: st) (jm_H m I A L rest z) = jv_ev call 59 63 [l0, l1, l2, l3, l4] (.int (A 17 i) :: st) (jm_H m I A L rest z) := je_iald D59_62 rfl (jm_l17 hi)
theorem D59_63 : decode (jt_code 59) 63 = .ok (.if_icmp .ge 30, 3) := by decide +kernel
theorem E59_63 {call : jv_F} {l0 l1 l2 l3 l4 : Option Value} {x y : Int32} {st : List Value} {h : jv_H} : jv_ev call 59 63 [l0, l1, l2, l3, l4] (.int y :: .int x :: st) h = if y ≤ x then jv_ev call 59 93 [l0, l1, l2, l3, l4] st h else jv_ev call 59 66 [l0, l1, l2, l3, l4] st h := je_icmp D59_63 (by decide) rfl rfl
theorem D59_66 : decode (jt_code 59) 66 = .ok (.lload_n 1, 1) := by decide +kernel
theorem E59_66 {call : jv_F} {l0 l2 l3 l4 : Option Value} {x : Int64} {st : List Value} {h : jv_H} : jv_ev call 59 66 [l0, some (.long x), l2, l3, l4] st h = jv_ev call 59 67 [l0, some (.long x), l2, l3, l4] (.long x :: st) h := je_lload_n D59_66 rfl rfl
theorem D59_67 : decode (jt_code 59) 67 = .ok (.ldc2_w 302, 3) := by decide +kernel
theorem E59_67 {call : jv_F} {l0 l1 l2 l3 l4 : Option Value}  {st : List Value} {h : jv_H} : jv_ev call 59 67 [l0, l1, l2, l3, l4] st h = jv_ev call 59 70 [l0, l1, l2, l3, l4] (.long 31 :: st) h := je_ldc2 D59_67 rfl (by decide)
theorem D59_70 : decode (jt_code 59) 70 = .ok (.lmul, 1) := by decide +kernel
theorem E59_70 {call : jv_F} {l0 l1 l2 l3 l4 : Option Value} {x y : Int64} {st : List Value} {h : jv_H} : jv_ev call 59 70 [l0, l1, l2, l3, l4] (.long y :: .long x :: st) h = jv_ev call 59 71 [l0, l1, l2, l3, l4] (.long (x * y) :: st) h := je_l2 (f := fun x y => x * y) D59_70 rfl (fun _ => rfl)
theorem D59_71 : decode (jt_code 59) 71 = .ok (.aload_n 0, 1) := by decide +kernel
theorem E59_71 {call : jv_F} {l1 l2 l3 l4 : Option Value} {a : Nat} {st : List Value} {h : jv_H} : jv_ev call 59 71 [some (.ref a), l1, l2, l3, l4] st h = jv_ev call 59 72 [some (.ref a), l1, l2, l3, l4] (.ref a :: st) h := je_aload_n (r := some a) D59_71 rfl rfl
theorem D59_72 : decode (jt_code 59) 72 = .ok (.getfield 51, 3) := by decide +kernel
theorem E59_72 {call : jv_F} {l0 l1 l2 l3 l4 : Option Value}  {st : List Value} {m : Nat} {I : Nat → Int32} {A : Nat → Nat → Int32} {L : Nat → Nat → Int64} {rest : Nat → Option jv_C} {z : Nat × Nat} : jv_ev call 59 72 [l0, l1, l2, l3, l4] (.ref m :: st) (jm_H m I A L rest z) = jv_ev call 59 75 [l0, l1, l2, l3, l4] (.ref (m + 13) :: st) (jm_H m I A L rest z) := je_get D59_72 rfl (by decide) jm_g16
theorem D59_75 : decode (jt_code 59) 75 = .ok (.sipush 400, 3) := by decide +kernel
theorem E59_75 {call : jv_F} {l0 l1 l2 l3 l4 : Option Value}  {st : List Value} {h : jv_H} : jv_ev call 59 75 [l0, l1, l2, l3, l4] st h = jv_ev call 59 78 [l0, l1, l2, l3, l4] (.int (nI 400) :: st) h := je_sipush D59_75 rfl (by decide)
theorem D59_78 : decode (jt_code 59) 78 = .ok (.iload_n 3, 1) := by decide +kernel
theorem E59_78 {call : jv_F} {l0 l1 l2 l4 : Option Value} {x : Int32} {st : List Value} {h : jv_H} : jv_ev call 59 78 [l0, l1, l2, some (.int x), l4] st h = jv_ev call 59 79 [l0, l1, l2, some (.int x), l4] (.int x :: st) h := je_iload_n D59_78 rfl rfl
theorem D59_79 : decode (jt_code 59) 79 = .ok (.imul, 1) := by decide +kernel
theorem E59_79 {call : jv_F} {l0 l1 l2 l3 l4 : Option Value} {x y : Int32} {st : List Value} {h : jv_H} : jv_ev call 59 79 [l0, l1, l2, l3, l4] (.int y :: .int x :: st) h = jv_ev call 59 80 [l0, l1, l2, l3, l4] (.int (x * y) :: st) h := je_b2 (f := fun x y => x * y) D59_79 rfl (fun _ => rfl)
theorem D59_80 : decode (jt_code 59) 80 = .ok (.iload 4, 2) := by decide +kernel
theorem E59_80 {call : jv_F} {l0 l1 l2 l3 : Option Value} {x : Int32} {st : List Value} {h : jv_H} : jv_ev call 59 80 [l0, l1, l2, l3, some (.int x)] st h = jv_ev call 59 82 [l0, l1, l2, l3, some (.int x)] (.int x :: st) h := je_iload D59_80 rfl rfl
theorem D59_82 : decode (jt_code 59) 82 = .ok (.iadd, 1) := by decide +kernel
theorem E59_82 {call : jv_F} {l0 l1 l2 l3 l4 : Option Value} {x y : Int32} {st : List Value} {h : jv_H} : jv_ev call 59 82 [l0, l1, l2, l3, l4] (.int y :: .int x :: st) h = jv_ev call 59 83 [l0, l1, l2, l3, l4] (.int (x + y) :: st) h := je_b2 (f := fun x y => x + y) D59_82 rfl (fun _ => rfl)
theorem D59_83 : decode (jt_code 59) 83 = .ok (.iaload, 1) := by decide +kernel
theorem E59_83 {call : jv_F} {l0 l1 l2 l3 l4 : Option Value} {i : Nat} {st : List Value} {m : Nat} {I : Nat → Int32} {A : Nat → Nat → Int32} {L : Nat → Nat → Int64} {rest : Nat → Option jv_C} {z : Nat × Nat} (hi : i < 4800) : jv_ev call 59 83 [l0, l1, l2, l3, l4] (.int (nI i) :: .ref (m + 13) :: st) (jm_H m I A L rest z) = jv_ev call 59 84 [l0, l1, l2, l3, l4] (.int (A 16 i) :: st) (jm_H m I A L rest z) := je_iald D59_83 rfl (jm_l16 hi)
theorem D59_84 : decode (jt_code 59) 84 = .ok (.i2l, 1) := by decide +kernel
theorem E59_84 {call : jv_F} {l0 l1 l2 l3 l4 : Option Value} {x : Int32} {st : List Value} {h : jv_H} : jv_ev call 59 84 [l0, l1, l2, l3, l4] (.int x :: st) h = jv_ev call 59 85 [l0, l1, l2, l3, l4] (.long x.toInt64 :: st) h := je_i2l D59_84 rfl
theorem D59_85 : decode (jt_code 59) 85 = .ok (.ladd, 1) := by decide +kernel
theorem E59_85 {call : jv_F} {l0 l1 l2 l3 l4 : Option Value} {x y : Int64} {st : List Value} {h : jv_H} : jv_ev call 59 85 [l0, l1, l2, l3, l4] (.long y :: .long x :: st) h = jv_ev call 59 86 [l0, l1, l2, l3, l4] (.long (x + y) :: st) h := je_l2 (f := fun x y => x + y) D59_85 rfl (fun _ => rfl)
theorem D59_86 : decode (jt_code 59) 86 = .ok (.lstore_n 1, 1) := by decide +kernel
theorem E59_86 {call : jv_F} {l0 l1 l2 l3 l4 : Option Value} {x : Int64} {st : List Value} {h : jv_H} (hk : ¬ jv_is2 (some l0) = true) : jv_ev call 59 86 [l0, l1, l2, l3, l4] (.long x :: st) h = jv_ev call 59 87 [l0, some (.long x), none, l3, l4] st h := je_lstore_n D59_86 rfl (Nat.le_of_ble_eq_true rfl) (by show jv_st2 _ 1 _ = _; simp only [jv_st2, jv_kill, List.getElem?_cons_succ, List.getElem?_cons_zero, hk, if_false]; rfl)
theorem D59_87 : decode (jt_code 59) 87 = .ok (.iinc 4 1, 3) := by decide +kernel
theorem E59_87 {call : jv_F} {l0 l1 l2 l3 : Option Value} {x : Int32} {st : List Value} {h : jv_H} (hk : ¬ jv_is2 (some l3) = true) : jv_ev call 59 87 [l0, l1, l2, l3, some (.int x)] st h = jv_ev call 59 90 [l0, l1, l2, l3, some (.int (x + (nI 1)))] st h := je_iinc D59_87 rfl rfl (v := x + (nI 1)) (by rfl) (by show jv_st1 _ 4 _ = _; simp only [jv_st1, jv_kill, List.getElem?_cons_succ, List.getElem?_cons_zero, hk, if_false]; rfl)
theorem D59_90 : decode (jt_code 59) 90 = .ok (.goto (-35), 3) := by decide +kernel
theorem E59_90 {call : jv_F} {l0 l1 l2 l3 l4 : Option Value}  {st : List Value} {h : jv_H} : jv_ev call 59 90 [l0, l1, l2, l3, l4] st h = jv_ev call 59 55 [l0, l1, l2, l3, l4] st h := je_goto D59_90 (by decide)
theorem D59_93 : decode (jt_code 59) 93 = .ok (.lload_n 1, 1) := by decide +kernel
theorem E59_93 {call : jv_F} {l0 l2 l3 l4 : Option Value} {x : Int64} {st : List Value} {h : jv_H} : jv_ev call 59 93 [l0, some (.long x), l2, l3, l4] st h = jv_ev call 59 94 [l0, some (.long x), l2, l3, l4] (.long x :: st) h := je_lload_n D59_93 rfl rfl
theorem D59_94 : decode (jt_code 59) 94 = .ok (.ldc2_w 302, 3) := by decide +kernel
theorem E59_94 {call : jv_F} {l0 l1 l2 l3 l4 : Option Value}  {st : List Value} {h : jv_H} : jv_ev call 59 94 [l0, l1, l2, l3, l4] st h = jv_ev call 59 97 [l0, l1, l2, l3, l4] (.long 31 :: st) h := je_ldc2 D59_94 rfl (by decide)
theorem D59_97 : decode (jt_code 59) 97 = .ok (.lmul, 1) := by decide +kernel
theorem E59_97 {call : jv_F} {l0 l1 l2 l3 l4 : Option Value} {x y : Int64} {st : List Value} {h : jv_H} : jv_ev call 59 97 [l0, l1, l2, l3, l4] (.long y :: .long x :: st) h = jv_ev call 59 98 [l0, l1, l2, l3, l4] (.long (x * y) :: st) h := je_l2 (f := fun x y => x * y) D59_97 rfl (fun _ => rfl)
theorem D59_98 : decode (jt_code 59) 98 = .ok (.aload_n 0, 1) := by decide +kernel
theorem E59_98 {call : jv_F} {l1 l2 l3 l4 : Option Value} {a : Nat} {st : List Value} {h : jv_H} : jv_ev call 59 98 [some (.ref a), l1, l2, l3, l4] st h = jv_ev call 59 99 [some (.ref a), l1, l2, l3, l4] (.ref a :: st) h := je_aload_n (r := some a) D59_98 rfl rfl
theorem D59_99 : decode (jt_code 59) 99 = .ok (.getfield 33, 3) := by decide +kernel
theorem E59_99 {call : jv_F} {l0 l1 l2 l3 l4 : Option Value}  {st : List Value} {m : Nat} {I : Nat → Int32} {A : Nat → Nat → Int32} {L : Nat → Nat → Int64} {rest : Nat → Option jv_C} {z : Nat × Nat} : jv_ev call 59 99 [l0, l1, l2, l3, l4] (.ref m :: st) (jm_H m I A L rest z) = jv_ev call 59 102 [l0, l1, l2, l3, l4] (.ref (m + 7) :: st) (jm_H m I A L rest z) := je_get D59_99 rfl (by decide) jm_g10
theorem D59_102 : decode (jt_code 59) 102 = .ok (.iload_n 3, 1) := by decide +kernel
theorem E59_102 {call : jv_F} {l0 l1 l2 l4 : Option Value} {x : Int32} {st : List Value} {h : jv_H} : jv_ev call 59 102 [l0, l1, l2, some (.int x), l4] st h = jv_ev call 59 103 [l0, l1, l2, some (.int x), l4] (.int x :: st) h := je_iload_n D59_102 rfl rfl
theorem D59_103 : decode (jt_code 59) 103 = .ok (.laload, 1) := by decide +kernel
theorem E59_103 {call : jv_F} {l0 l1 l2 l3 l4 : Option Value} {i : Nat} {st : List Value} {m : Nat} {I : Nat → Int32} {A : Nat → Nat → Int32} {L : Nat → Nat → Int64} {rest : Nat → Option jv_C} {z : Nat × Nat} (hi : i < 12) : jv_ev call 59 103 [l0, l1, l2, l3, l4] (.int (nI i) :: .ref (m + 7) :: st) (jm_H m I A L rest z) = jv_ev call 59 104 [l0, l1, l2, l3, l4] (.long (L 10 i) :: st) (jm_H m I A L rest z) := je_lald D59_103 rfl (jm_l10 hi)
theorem D59_104 : decode (jt_code 59) 104 = .ok (.ladd, 1) := by decide +kernel
theorem E59_104 {call : jv_F} {l0 l1 l2 l3 l4 : Option Value} {x y : Int64} {st : List Value} {h : jv_H} : jv_ev call 59 104 [l0, l1, l2, l3, l4] (.long y :: .long x :: st) h = jv_ev call 59 105 [l0, l1, l2, l3, l4] (.long (x + y) :: st) h := je_l2 (f := fun x y => x + y) D59_104 rfl (fun _ => rfl)
theorem D59_105 : decode (jt_code 59) 105 = .ok (.lstore_n 1, 1) := by decide +kernel
theorem E59_105 {call : jv_F} {l0 l1 l2 l3 l4 : Option Value} {x : Int64} {st : List Value} {h : jv_H} (hk : ¬ jv_is2 (some l0) = true) : jv_ev call 59 105 [l0, l1, l2, l3, l4] (.long x :: st) h = jv_ev call 59 106 [l0, some (.long x), none, l3, l4] st h := je_lstore_n D59_105 rfl (Nat.le_of_ble_eq_true rfl) (by show jv_st2 _ 1 _ = _; simp only [jv_st2, jv_kill, List.getElem?_cons_succ, List.getElem?_cons_zero, hk, if_false]; rfl)
theorem D59_106 : decode (jt_code 59) 106 = .ok (.iconst 0, 1) := by decide +kernel
theorem E59_106 {call : jv_F} {l0 l1 l2 l3 l4 : Option Value}  {st : List Value} {h : jv_H} : jv_ev call 59 106 [l0, l1, l2, l3, l4] st h = jv_ev call 59 107 [l0, l1, l2, l3, l4] (.int (nI 0) :: st) h := je_iconst D59_106 rfl (by decide)
theorem D59_107 : decode (jt_code 59) 107 = .ok (.istore 4, 2) := by decide +kernel
theorem E59_107 {call : jv_F} {l0 l1 l2 l3 l4 : Option Value} {x : Int32} {st : List Value} {h : jv_H} (hk : ¬ jv_is2 (some l3) = true) : jv_ev call 59 107 [l0, l1, l2, l3, l4] (.int x :: st) h = jv_ev call 59 109 [l0, l1, l2, l3, some (.int x)] st h := je_istore D59_107 rfl (Nat.le_of_ble_eq_true rfl) (by show jv_st1 _ 4 _ = _; simp only [jv_st1, jv_kill, List.getElem?_cons_succ, List.getElem?_cons_zero, hk, if_false]; rfl)
theorem D59_109 : decode (jt_code 59) 109 = .ok (.iload 4, 2) := by decide +kernel
theorem E59_109 {call : jv_F} {l0 l1 l2 l3 : Option Value} {x : Int32} {st : List Value} {h : jv_H} : jv_ev call 59 109 [l0, l1, l2, l3, some (.int x)] st h = jv_ev call 59 111 [l0, l1, l2, l3, some (.int x)] (.int x :: st) h := je_iload D59_109 rfl rfl
theorem D59_111 : decode (jt_code 59) 111 = .ok (.sipush 1024, 3) := by decide +kernel
theorem E59_111 {call : jv_F} {l0 l1 l2 l3 l4 : Option Value}  {st : List Value} {h : jv_H} : jv_ev call 59 111 [l0, l1, l2, l3, l4] st h = jv_ev call 59 114 [l0, l1, l2, l3, l4] (.int (nI 1024) :: st) h := je_sipush D59_111 rfl (by decide)
theorem D59_114 : decode (jt_code 59) 114 = .ok (.if_icmp .ge 38, 3) := by decide +kernel
theorem E59_114 {call : jv_F} {l0 l1 l2 l3 l4 : Option Value} {x y : Int32} {st : List Value} {h : jv_H} : jv_ev call 59 114 [l0, l1, l2, l3, l4] (.int y :: .int x :: st) h = if y ≤ x then jv_ev call 59 152 [l0, l1, l2, l3, l4] st h else jv_ev call 59 117 [l0, l1, l2, l3, l4] st h := je_icmp D59_114 (by decide) rfl rfl
theorem D59_117 : decode (jt_code 59) 117 = .ok (.aload_n 0, 1) := by decide +kernel
theorem E59_117 {call : jv_F} {l1 l2 l3 l4 : Option Value} {a : Nat} {st : List Value} {h : jv_H} : jv_ev call 59 117 [some (.ref a), l1, l2, l3, l4] st h = jv_ev call 59 118 [some (.ref a), l1, l2, l3, l4] (.ref a :: st) h := je_aload_n (r := some a) D59_117 rfl rfl
theorem D59_118 : decode (jt_code 59) 118 = .ok (.getfield 27, 3) := by decide +kernel
theorem E59_118 {call : jv_F} {l0 l1 l2 l3 l4 : Option Value}  {st : List Value} {m : Nat} {I : Nat → Int32} {A : Nat → Nat → Int32} {L : Nat → Nat → Int64} {rest : Nat → Option jv_C} {z : Nat × Nat} : jv_ev call 59 118 [l0, l1, l2, l3, l4] (.ref m :: st) (jm_H m I A L rest z) = jv_ev call 59 121 [l0, l1, l2, l3, l4] (.ref (m + 5) :: st) (jm_H m I A L rest z) := je_get D59_118 rfl (by decide) jm_g8
theorem D59_121 : decode (jt_code 59) 121 = .ok (.iload_n 3, 1) := by decide +kernel
theorem E59_121 {call : jv_F} {l0 l1 l2 l4 : Option Value} {x : Int32} {st : List Value} {h : jv_H} : jv_ev call 59 121 [l0, l1, l2, some (.int x), l4] st h = jv_ev call 59 122 [l0, l1, l2, some (.int x), l4] (.int x :: st) h := je_iload_n D59_121 rfl rfl
theorem D59_122 : decode (jt_code 59) 122 = .ok (.iaload, 1) := by decide +kernel
theorem E59_122 {call : jv_F} {l0 l1 l2 l3 l4 : Option Value} {i : Nat} {st : List Value} {m : Nat} {I : Nat → Int32} {A : Nat → Nat → Int32} {L : Nat → Nat → Int64} {rest : Nat → Option jv_C} {z : Nat × Nat} (hi : i < 12) : jv_ev call 59 122 [l0, l1, l2, l3, l4] (.int (nI i) :: .ref (m + 5) :: st) (jm_H m I A L rest z) = jv_ev call 59 123 [l0, l1, l2, l3, l4] (.int (A 8 i) :: st) (jm_H m I A L rest z) := je_iald D59_122 rfl (jm_l8 hi)
theorem D59_123 : decode (jt_code 59) 123 = .ok (.ifCond .ne 29, 3) := by decide +kernel
theorem E59_123 {call : jv_F} {l0 l1 l2 l3 l4 : Option Value} {x : Int32} {st : List Value} {h : jv_H} : jv_ev call 59 123 [l0, l1, l2, l3, l4] (.int x :: st) h = if ¬ x = 0 then jv_ev call 59 152 [l0, l1, l2, l3, l4] st h else jv_ev call 59 126 [l0, l1, l2, l3, l4] st h := je_ifc D59_123 (by decide) rfl rfl
theorem D59_126 : decode (jt_code 59) 126 = .ok (.lload_n 1, 1) := by decide +kernel
theorem E59_126 {call : jv_F} {l0 l2 l3 l4 : Option Value} {x : Int64} {st : List Value} {h : jv_H} : jv_ev call 59 126 [l0, some (.long x), l2, l3, l4] st h = jv_ev call 59 127 [l0, some (.long x), l2, l3, l4] (.long x :: st) h := je_lload_n D59_126 rfl rfl
theorem D59_127 : decode (jt_code 59) 127 = .ok (.ldc2_w 302, 3) := by decide +kernel
theorem E59_127 {call : jv_F} {l0 l1 l2 l3 l4 : Option Value}  {st : List Value} {h : jv_H} : jv_ev call 59 127 [l0, l1, l2, l3, l4] st h = jv_ev call 59 130 [l0, l1, l2, l3, l4] (.long 31 :: st) h := je_ldc2 D59_127 rfl (by decide)
theorem D59_130 : decode (jt_code 59) 130 = .ok (.lmul, 1) := by decide +kernel
theorem E59_130 {call : jv_F} {l0 l1 l2 l3 l4 : Option Value} {x y : Int64} {st : List Value} {h : jv_H} : jv_ev call 59 130 [l0, l1, l2, l3, l4] (.long y :: .long x :: st) h = jv_ev call 59 131 [l0, l1, l2, l3, l4] (.long (x * y) :: st) h := je_l2 (f := fun x y => x * y) D59_130 rfl (fun _ => rfl)
theorem D59_131 : decode (jt_code 59) 131 = .ok (.aload_n 0, 1) := by decide +kernel
theorem E59_131 {call : jv_F} {l1 l2 l3 l4 : Option Value} {a : Nat} {st : List Value} {h : jv_H} : jv_ev call 59 131 [some (.ref a), l1, l2, l3, l4] st h = jv_ev call 59 132 [some (.ref a), l1, l2, l3, l4] (.ref a :: st) h := je_aload_n (r := some a) D59_131 rfl rfl
theorem D59_132 : decode (jt_code 59) 132 = .ok (.getfield 39, 3) := by decide +kernel
theorem E59_132 {call : jv_F} {l0 l1 l2 l3 l4 : Option Value}  {st : List Value} {m : Nat} {I : Nat → Int32} {A : Nat → Nat → Int32} {L : Nat → Nat → Int64} {rest : Nat → Option jv_C} {z : Nat × Nat} : jv_ev call 59 132 [l0, l1, l2, l3, l4] (.ref m :: st) (jm_H m I A L rest z) = jv_ev call 59 135 [l0, l1, l2, l3, l4] (.ref (m + 9) :: st) (jm_H m I A L rest z) := je_get D59_132 rfl (by decide) jm_g12
theorem D59_135 : decode (jt_code 59) 135 = .ok (.sipush 1024, 3) := by decide +kernel
theorem E59_135 {call : jv_F} {l0 l1 l2 l3 l4 : Option Value}  {st : List Value} {h : jv_H} : jv_ev call 59 135 [l0, l1, l2, l3, l4] st h = jv_ev call 59 138 [l0, l1, l2, l3, l4] (.int (nI 1024) :: st) h := je_sipush D59_135 rfl (by decide)
theorem D59_138 : decode (jt_code 59) 138 = .ok (.iload_n 3, 1) := by decide +kernel
theorem E59_138 {call : jv_F} {l0 l1 l2 l4 : Option Value} {x : Int32} {st : List Value} {h : jv_H} : jv_ev call 59 138 [l0, l1, l2, some (.int x), l4] st h = jv_ev call 59 139 [l0, l1, l2, some (.int x), l4] (.int x :: st) h := je_iload_n D59_138 rfl rfl
theorem D59_139 : decode (jt_code 59) 139 = .ok (.imul, 1) := by decide +kernel
theorem E59_139 {call : jv_F} {l0 l1 l2 l3 l4 : Option Value} {x y : Int32} {st : List Value} {h : jv_H} : jv_ev call 59 139 [l0, l1, l2, l3, l4] (.int y :: .int x :: st) h = jv_ev call 59 140 [l0, l1, l2, l3, l4] (.int (x * y) :: st) h := je_b2 (f := fun x y => x * y) D59_139 rfl (fun _ => rfl)
theorem D59_140 : decode (jt_code 59) 140 = .ok (.iload 4, 2) := by decide +kernel
theorem E59_140 {call : jv_F} {l0 l1 l2 l3 : Option Value} {x : Int32} {st : List Value} {h : jv_H} : jv_ev call 59 140 [l0, l1, l2, l3, some (.int x)] st h = jv_ev call 59 142 [l0, l1, l2, l3, some (.int x)] (.int x :: st) h := je_iload D59_140 rfl rfl
theorem D59_142 : decode (jt_code 59) 142 = .ok (.iadd, 1) := by decide +kernel
theorem E59_142 {call : jv_F} {l0 l1 l2 l3 l4 : Option Value} {x y : Int32} {st : List Value} {h : jv_H} : jv_ev call 59 142 [l0, l1, l2, l3, l4] (.int y :: .int x :: st) h = jv_ev call 59 143 [l0, l1, l2, l3, l4] (.int (x + y) :: st) h := je_b2 (f := fun x y => x + y) D59_142 rfl (fun _ => rfl)
theorem D59_143 : decode (jt_code 59) 143 = .ok (.laload, 1) := by decide +kernel
theorem E59_143 {call : jv_F} {l0 l1 l2 l3 l4 : Option Value} {i : Nat} {st : List Value} {m : Nat} {I : Nat → Int32} {A : Nat → Nat → Int32} {L : Nat → Nat → Int64} {rest : Nat → Option jv_C} {z : Nat × Nat} (hi : i < 12288) : jv_ev call 59 143 [l0, l1, l2, l3, l4] (.int (nI i) :: .ref (m + 9) :: st) (jm_H m I A L rest z) = jv_ev call 59 144 [l0, l1, l2, l3, l4] (.long (L 12 i) :: st) (jm_H m I A L rest z) := je_lald D59_143 rfl (jm_l12 hi)
theorem D59_144 : decode (jt_code 59) 144 = .ok (.ladd, 1) := by decide +kernel
theorem E59_144 {call : jv_F} {l0 l1 l2 l3 l4 : Option Value} {x y : Int64} {st : List Value} {h : jv_H} : jv_ev call 59 144 [l0, l1, l2, l3, l4] (.long y :: .long x :: st) h = jv_ev call 59 145 [l0, l1, l2, l3, l4] (.long (x + y) :: st) h := je_l2 (f := fun x y => x + y) D59_144 rfl (fun _ => rfl)
theorem D59_145 : decode (jt_code 59) 145 = .ok (.lstore_n 1, 1) := by decide +kernel
theorem E59_145 {call : jv_F} {l0 l1 l2 l3 l4 : Option Value} {x : Int64} {st : List Value} {h : jv_H} (hk : ¬ jv_is2 (some l0) = true) : jv_ev call 59 145 [l0, l1, l2, l3, l4] (.long x :: st) h = jv_ev call 59 146 [l0, some (.long x), none, l3, l4] st h := je_lstore_n D59_145 rfl (Nat.le_of_ble_eq_true rfl) (by show jv_st2 _ 1 _ = _; simp only [jv_st2, jv_kill, List.getElem?_cons_succ, List.getElem?_cons_zero, hk, if_false]; rfl)
theorem D59_146 : decode (jt_code 59) 146 = .ok (.iinc 4 1, 3) := by decide +kernel
theorem E59_146 {call : jv_F} {l0 l1 l2 l3 : Option Value} {x : Int32} {st : List Value} {h : jv_H} (hk : ¬ jv_is2 (some l3) = true) : jv_ev call 59 146 [l0, l1, l2, l3, some (.int x)] st h = jv_ev call 59 149 [l0, l1, l2, l3, some (.int (x + (nI 1)))] st h := je_iinc D59_146 rfl rfl (v := x + (nI 1)) (by rfl) (by show jv_st1 _ 4 _ = _; simp only [jv_st1, jv_kill, List.getElem?_cons_succ, List.getElem?_cons_zero, hk, if_false]; rfl)
theorem D59_149 : decode (jt_code 59) 149 = .ok (.goto (-40), 3) := by decide +kernel
theorem E59_149 {call : jv_F} {l0 l1 l2 l3 l4 : Option Value}  {st : List Value} {h : jv_H} : jv_ev call 59 149 [l0, l1, l2, l3, l4] st h = jv_ev call 59 109 [l0, l1, l2, l3, l4] st h := je_goto D59_149 (by decide)
theorem D59_152 : decode (jt_code 59) 152 = .ok (.iinc 3 1, 3) := by decide +kernel
theorem E59_152 {call : jv_F} {l0 l1 l2 l4 : Option Value} {x : Int32} {st : List Value} {h : jv_H} (hk : ¬ jv_is2 (some l2) = true) : jv_ev call 59 152 [l0, l1, l2, some (.int x), l4] st h = jv_ev call 59 155 [l0, l1, l2, some (.int (x + (nI 1))), l4] st h := je_iinc D59_152 rfl rfl (v := x + (nI 1)) (by rfl) (by show jv_st1 _ 3 _ = _; simp only [jv_st1, jv_kill, List.getElem?_cons_succ, List.getElem?_cons_zero, hk, if_false]; rfl)
theorem D59_155 : decode (jt_code 59) 155 = .ok (.goto (-149), 3) := by decide +kernel
theorem E59_155 {call : jv_F} {l0 l1 l2 l3 l4 : Option Value}  {st : List Value} {h : jv_H} : jv_ev call 59 155 [l0, l1, l2, l3, l4] st h = jv_ev call 59 6 [l0, l1, l2, l3, l4] st h := je_goto D59_155 (by decide)
theorem D59_158 : decode (jt_code 59) 158 = .ok (.lload_n 1, 1) := by decide +kernel
theorem E59_158 {call : jv_F} {l0 l2 l3 l4 : Option Value} {x : Int64} {st : List Value} {h : jv_H} : jv_ev call 59 158 [l0, some (.long x), l2, l3, l4] st h = jv_ev call 59 159 [l0, some (.long x), l2, l3, l4] (.long x :: st) h := je_lload_n D59_158 rfl rfl
theorem D59_159 : decode (jt_code 59) 159 = .ok (.ldc2_w 302, 3) := by decide +kernel
theorem E59_159 {call : jv_F} {l0 l1 l2 l3 l4 : Option Value}  {st : List Value} {h : jv_H} : jv_ev call 59 159 [l0, l1, l2, l3, l4] st h = jv_ev call 59 162 [l0, l1, l2, l3, l4] (.long 31 :: st) h := je_ldc2 D59_159 rfl (by decide)
theorem D59_162 : decode (jt_code 59) 162 = .ok (.lmul, 1) := by decide +kernel
theorem E59_162 {call : jv_F} {l0 l1 l2 l3 l4 : Option Value} {x y : Int64} {st : List Value} {h : jv_H} : jv_ev call 59 162 [l0, l1, l2, l3, l4] (.long y :: .long x :: st) h = jv_ev call 59 163 [l0, l1, l2, l3, l4] (.long (x * y) :: st) h := je_l2 (f := fun x y => x * y) D59_162 rfl (fun _ => rfl)
theorem D59_163 : decode (jt_code 59) 163 = .ok (.aload_n 0, 1) := by decide +kernel
theorem E59_163 {call : jv_F} {l1 l2 l3 l4 : Option Value} {a : Nat} {st : List Value} {h : jv_H} : jv_ev call 59 163 [some (.ref a), l1, l2, l3, l4] st h = jv_ev call 59 164 [some (.ref a), l1, l2, l3, l4] (.ref a :: st) h := je_aload_n (r := some a) D59_163 rfl rfl
theorem D59_164 : decode (jt_code 59) 164 = .ok (.getfield 148, 3) := by decide +kernel
theorem E59_164 {call : jv_F} {l0 l1 l2 l3 l4 : Option Value}  {st : List Value} {m : Nat} {I : Nat → Int32} {A : Nat → Nat → Int32} {L : Nat → Nat → Int64} {rest : Nat → Option jv_C} {z : Nat × Nat} : jv_ev call 59 164 [l0, l1, l2, l3, l4] (.ref m :: st) (jm_H m I A L rest z) = jv_ev call 59 167 [l0, l1, l2, l3, l4] (.int (I 36) :: st) (jm_H m I A L rest z) := je_get D59_164 rfl (by decide) jm_g36
theorem D59_167 : decode (jt_code 59) 167 = .ok (.i2l, 1) := by decide +kernel
theorem E59_167 {call : jv_F} {l0 l1 l2 l3 l4 : Option Value} {x : Int32} {st : List Value} {h : jv_H} : jv_ev call 59 167 [l0, l1, l2, l3, l4] (.int x :: st) h = jv_ev call 59 168 [l0, l1, l2, l3, l4] (.long x.toInt64 :: st) h := je_i2l D59_167 rfl
theorem D59_168 : decode (jt_code 59) 168 = .ok (.ladd, 1) := by decide +kernel
theorem E59_168 {call : jv_F} {l0 l1 l2 l3 l4 : Option Value} {x y : Int64} {st : List Value} {h : jv_H} : jv_ev call 59 168 [l0, l1, l2, l3, l4] (.long y :: .long x :: st) h = jv_ev call 59 169 [l0, l1, l2, l3, l4] (.long (x + y) :: st) h := je_l2 (f := fun x y => x + y) D59_168 rfl (fun _ => rfl)
theorem D59_169 : decode (jt_code 59) 169 = .ok (.lstore_n 1, 1) := by decide +kernel
theorem E59_169 {call : jv_F} {l0 l1 l2 l3 l4 : Option Value} {x : Int64} {st : List Value} {h : jv_H} (hk : ¬ jv_is2 (some l0) = true) : jv_ev call 59 169 [l0, l1, l2, l3, l4] (.long x :: st) h = jv_ev call 59 170 [l0, some (.long x), none, l3, l4] st h := je_lstore_n D59_169 rfl (Nat.le_of_ble_eq_true rfl) (by show jv_st2 _ 1 _ = _; simp only [jv_st2, jv_kill, List.getElem?_cons_succ, List.getElem?_cons_zero, hk, if_false]; rfl)
theorem D59_170 : decode (jt_code 59) 170 = .ok (.iconst 0, 1) := by decide +kernel
theorem E59_170 {call : jv_F} {l0 l1 l2 l3 l4 : Option Value}  {st : List Value} {h : jv_H} : jv_ev call 59 170 [l0, l1, l2, l3, l4] st h = jv_ev call 59 171 [l0, l1, l2, l3, l4] (.int (nI 0) :: st) h := je_iconst D59_170 rfl (by decide)
theorem D59_171 : decode (jt_code 59) 171 = .ok (.istore_n 3, 1) := by decide +kernel
theorem E59_171 {call : jv_F} {l0 l1 l2 l3 l4 : Option Value} {x : Int32} {st : List Value} {h : jv_H} (hk : ¬ jv_is2 (some l2) = true) : jv_ev call 59 171 [l0, l1, l2, l3, l4] (.int x :: st) h = jv_ev call 59 172 [l0, l1, l2, some (.int x), l4] st h := je_istore_n D59_171 rfl (Nat.le_of_ble_eq_true rfl) (by show jv_st1 _ 3 _ = _; simp only [jv_st1, jv_kill, List.getElem?_cons_succ, List.getElem?_cons_zero, hk, if_false]; rfl)
theorem D59_172 : decode (jt_code 59) 172 = .ok (.iload_n 3, 1) := by decide +kernel
theorem E59_172 {call : jv_F} {l0 l1 l2 l4 : Option Value} {x : Int32} {st : List Value} {h : jv_H} : jv_ev call 59 172 [l0, l1, l2, some (.int x), l4] st h = jv_ev call 59 173 [l0, l1, l2, some (.int x), l4] (.int x :: st) h := je_iload_n D59_172 rfl rfl
theorem D59_173 : decode (jt_code 59) 173 = .ok (.bipush 8, 2) := by decide +kernel
theorem E59_173 {call : jv_F} {l0 l1 l2 l3 l4 : Option Value}  {st : List Value} {h : jv_H} : jv_ev call 59 173 [l0, l1, l2, l3, l4] st h = jv_ev call 59 175 [l0, l1, l2, l3, l4] (.int (nI 8) :: st) h := je_bipush D59_173 rfl (by decide)
theorem D59_175 : decode (jt_code 59) 175 = .ok (.if_icmp .ge 22, 3) := by decide +kernel
theorem E59_175 {call : jv_F} {l0 l1 l2 l3 l4 : Option Value} {x y : Int32} {st : List Value} {h : jv_H} : jv_ev call 59 175 [l0, l1, l2, l3, l4] (.int y :: .int x :: st) h = if y ≤ x then jv_ev call 59 197 [l0, l1, l2, l3, l4] st h else jv_ev call 59 178 [l0, l1, l2, l3, l4] st h := je_icmp D59_175 (by decide) rfl rfl
theorem D59_178 : decode (jt_code 59) 178 = .ok (.lload_n 1, 1) := by decide +kernel
theorem E59_178 {call : jv_F} {l0 l2 l3 l4 : Option Value} {x : Int64} {st : List Value} {h : jv_H} : jv_ev call 59 178 [l0, some (.long x), l2, l3, l4] st h = jv_ev call 59 179 [l0, some (.long x), l2, l3, l4] (.long x :: st) h := je_lload_n D59_178 rfl rfl
theorem D59_179 : decode (jt_code 59) 179 = .ok (.ldc2_w 302, 3) := by decide +kernel
theorem E59_179 {call : jv_F} {l0 l1 l2 l3 l4 : Option Value}  {st : List Value} {h : jv_H} : jv_ev call 59 179 [l0, l1, l2, l3, l4] st h = jv_ev call 59 182 [l0, l1, l2, l3, l4] (.long 31 :: st) h := je_ldc2 D59_179 rfl (by decide)
theorem D59_182 : decode (jt_code 59) 182 = .ok (.lmul, 1) := by decide +kernel
theorem E59_182 {call : jv_F} {l0 l1 l2 l3 l4 : Option Value} {x y : Int64} {st : List Value} {h : jv_H} : jv_ev call 59 182 [l0, l1, l2, l3, l4] (.long y :: .long x :: st) h = jv_ev call 59 183 [l0, l1, l2, l3, l4] (.long (x * y) :: st) h := je_l2 (f := fun x y => x * y) D59_182 rfl (fun _ => rfl)
theorem D59_183 : decode (jt_code 59) 183 = .ok (.aload_n 0, 1) := by decide +kernel
theorem E59_183 {call : jv_F} {l1 l2 l3 l4 : Option Value} {a : Nat} {st : List Value} {h : jv_H} : jv_ev call 59 183 [some (.ref a), l1, l2, l3, l4] st h = jv_ev call 59 184 [some (.ref a), l1, l2, l3, l4] (.ref a :: st) h := je_aload_n (r := some a) D59_183 rfl rfl
theorem D59_184 : decode (jt_code 59) 184 = .ok (.iload_n 3, 1) := by decide +kernel
theorem E59_184 {call : jv_F} {l0 l1 l2 l4 : Option Value} {x : Int32} {st : List Value} {h : jv_H} : jv_ev call 59 184 [l0, l1, l2, some (.int x), l4] st h = jv_ev call 59 185 [l0, l1, l2, some (.int x), l4] (.int x :: st) h := je_iload_n D59_184 rfl rfl
theorem D59_185 : decode (jt_code 59) 185 = .ok (.invokevirtual 304, 3) := by decide +kernel
theorem E59_185 {call : jv_F} {l0 l1 l2 l3 l4 : Option Value} {v0 : Value}  {st : List Value} {m : Nat} {I : Nat → Int32} {A : Nat → Nat → Int32} {L : Nat → Nat → Int64} {rest : Nat → Option jv_C} {z : Nat × Nat} (hw : jv_wide st = true) (hc : (call 56 [.ref m, v0] (jm_H m I A L rest z)).isSome = true) : jv_ev call 59 185 [l0, l1, l2, l3, l4] (v0 :: .ref m :: st) (jm_H m I A L rest z) = jv_ev call 59 188 [l0, l1, l2, l3, l4] ((((call 56 [.ref m, v0] (jm_H m I A L rest z)).getD (none, (jm_H m I A L rest z))).1).toList ++ st) ((call 56 [.ref m, v0] (jm_H m I A L rest z)).getD (none, (jm_H m I A L rest z))).2 := by
  obtain ⟨⟨r, h'⟩, hv⟩ := Option.isSome_iff_exists.mp hc
  rw [hv]
  exact je_virt (y := 56) (as := [v0]) D59_185 rfl (by decide) (by decide) rfl jm_cl hw hv
theorem D59_188 : decode (jt_code 59) 188 = .ok (.i2l, 1) := by decide +kernel
theorem E59_188 {call : jv_F} {l0 l1 l2 l3 l4 : Option Value} {x : Int32} {st : List Value} {h : jv_H} : jv_ev call 59 188 [l0, l1, l2, l3, l4] (.int x :: st) h = jv_ev call 59 189 [l0, l1, l2, l3, l4] (.long x.toInt64 :: st) h := je_i2l D59_188 rfl
theorem D59_189 : decode (jt_code 59) 189 = .ok (.ladd, 1) := by decide +kernel
theorem E59_189 {call : jv_F} {l0 l1 l2 l3 l4 : Option Value} {x y : Int64} {st : List Value} {h : jv_H} : jv_ev call 59 189 [l0, l1, l2, l3, l4] (.long y :: .long x :: st) h = jv_ev call 59 190 [l0, l1, l2, l3, l4] (.long (x + y) :: st) h := je_l2 (f := fun x y => x + y) D59_189 rfl (fun _ => rfl)
theorem D59_190 : decode (jt_code 59) 190 = .ok (.lstore_n 1, 1) := by decide +kernel
theorem E59_190 {call : jv_F} {l0 l1 l2 l3 l4 : Option Value} {x : Int64} {st : List Value} {h : jv_H} (hk : ¬ jv_is2 (some l0) = true) : jv_ev call 59 190 [l0, l1, l2, l3, l4] (.long x :: st) h = jv_ev call 59 191 [l0, some (.long x), none, l3, l4] st h := je_lstore_n D59_190 rfl (Nat.le_of_ble_eq_true rfl) (by show jv_st2 _ 1 _ = _; simp only [jv_st2, jv_kill, List.getElem?_cons_succ, List.getElem?_cons_zero, hk, if_false]; rfl)
theorem D59_191 : decode (jt_code 59) 191 = .ok (.iinc 3 1, 3) := by decide +kernel
theorem E59_191 {call : jv_F} {l0 l1 l2 l4 : Option Value} {x : Int32} {st : List Value} {h : jv_H} (hk : ¬ jv_is2 (some l2) = true) : jv_ev call 59 191 [l0, l1, l2, some (.int x), l4] st h = jv_ev call 59 194 [l0, l1, l2, some (.int (x + (nI 1))), l4] st h := je_iinc D59_191 rfl rfl (v := x + (nI 1)) (by rfl) (by show jv_st1 _ 3 _ = _; simp only [jv_st1, jv_kill, List.getElem?_cons_succ, List.getElem?_cons_zero, hk, if_false]; rfl)
theorem D59_194 : decode (jt_code 59) 194 = .ok (.goto (-22), 3) := by decide +kernel
theorem E59_194 {call : jv_F} {l0 l1 l2 l3 l4 : Option Value}  {st : List Value} {h : jv_H} : jv_ev call 59 194 [l0, l1, l2, l3, l4] st h = jv_ev call 59 172 [l0, l1, l2, l3, l4] st h := je_goto D59_194 (by decide)
theorem D59_197 : decode (jt_code 59) 197 = .ok (.iconst 0, 1) := by decide +kernel
theorem E59_197 {call : jv_F} {l0 l1 l2 l3 l4 : Option Value}  {st : List Value} {h : jv_H} : jv_ev call 59 197 [l0, l1, l2, l3, l4] st h = jv_ev call 59 198 [l0, l1, l2, l3, l4] (.int (nI 0) :: st) h := je_iconst D59_197 rfl (by decide)
theorem D59_198 : decode (jt_code 59) 198 = .ok (.istore_n 3, 1) := by decide +kernel
theorem E59_198 {call : jv_F} {l0 l1 l2 l3 l4 : Option Value} {x : Int32} {st : List Value} {h : jv_H} (hk : ¬ jv_is2 (some l2) = true) : jv_ev call 59 198 [l0, l1, l2, l3, l4] (.int x :: st) h = jv_ev call 59 199 [l0, l1, l2, some (.int x), l4] st h := je_istore_n D59_198 rfl (Nat.le_of_ble_eq_true rfl) (by show jv_st1 _ 3 _ = _; simp only [jv_st1, jv_kill, List.getElem?_cons_succ, List.getElem?_cons_zero, hk, if_false]; rfl)
theorem D59_199 : decode (jt_code 59) 199 = .ok (.iload_n 3, 1) := by decide +kernel
theorem E59_199 {call : jv_F} {l0 l1 l2 l4 : Option Value} {x : Int32} {st : List Value} {h : jv_H} : jv_ev call 59 199 [l0, l1, l2, some (.int x), l4] st h = jv_ev call 59 200 [l0, l1, l2, some (.int x), l4] (.int x :: st) h := je_iload_n D59_199 rfl rfl
theorem D59_200 : decode (jt_code 59) 200 = .ok (.aload_n 0, 1) := by decide +kernel
theorem E59_200 {call : jv_F} {l1 l2 l3 l4 : Option Value} {a : Nat} {st : List Value} {h : jv_H} : jv_ev call 59 200 [some (.ref a), l1, l2, l3, l4] st h = jv_ev call 59 201 [some (.ref a), l1, l2, l3, l4] (.ref a :: st) h := je_aload_n (r := some a) D59_200 rfl rfl
theorem D59_201 : decode (jt_code 59) 201 = .ok (.getfield 7, 3) := by decide +kernel
theorem E59_201 {call : jv_F} {l0 l1 l2 l3 l4 : Option Value}  {st : List Value} {m : Nat} {I : Nat → Int32} {A : Nat → Nat → Int32} {L : Nat → Nat → Int64} {rest : Nat → Option jv_C} {z : Nat × Nat} : jv_ev call 59 201 [l0, l1, l2, l3, l4] (.ref m :: st) (jm_H m I A L rest z) = jv_ev call 59 204 [l0, l1, l2, l3, l4] (.int (I 0) :: st) (jm_H m I A L rest z) := je_get D59_201 rfl (by decide) jm_g0
theorem D59_204 : decode (jt_code 59) 204 = .ok (.if_icmp .ge 39, 3) := by decide +kernel
theorem E59_204 {call : jv_F} {l0 l1 l2 l3 l4 : Option Value} {x y : Int32} {st : List Value} {h : jv_H} : jv_ev call 59 204 [l0, l1, l2, l3, l4] (.int y :: .int x :: st) h = if y ≤ x then jv_ev call 59 243 [l0, l1, l2, l3, l4] st h else jv_ev call 59 207 [l0, l1, l2, l3, l4] st h := je_icmp D59_204 (by decide) rfl rfl
theorem D59_207 : decode (jt_code 59) 207 = .ok (.iconst 0, 1) := by decide +kernel
theorem E59_207 {call : jv_F} {l0 l1 l2 l3 l4 : Option Value}  {st : List Value} {h : jv_H} : jv_ev call 59 207 [l0, l1, l2, l3, l4] st h = jv_ev call 59 208 [l0, l1, l2, l3, l4] (.int (nI 0) :: st) h := je_iconst D59_207 rfl (by decide)
theorem D59_208 : decode (jt_code 59) 208 = .ok (.istore 4, 2) := by decide +kernel
theorem E59_208 {call : jv_F} {l0 l1 l2 l3 l4 : Option Value} {x : Int32} {st : List Value} {h : jv_H} (hk : ¬ jv_is2 (some l3) = true) : jv_ev call 59 208 [l0, l1, l2, l3, l4] (.int x :: st) h = jv_ev call 59 210 [l0, l1, l2, l3, some (.int x)] st h := je_istore D59_208 rfl (Nat.le_of_ble_eq_true rfl) (by show jv_st1 _ 4 _ = _; simp only [jv_st1, jv_kill, List.getElem?_cons_succ, List.getElem?_cons_zero, hk, if_false]; rfl)
theorem D59_210 : decode (jt_code 59) 210 = .ok (.iload 4, 2) := by decide +kernel
theorem E59_210 {call : jv_F} {l0 l1 l2 l3 : Option Value} {x : Int32} {st : List Value} {h : jv_H} : jv_ev call 59 210 [l0, l1, l2, l3, some (.int x)] st h = jv_ev call 59 212 [l0, l1, l2, l3, some (.int x)] (.int x :: st) h := je_iload D59_210 rfl rfl
theorem D59_212 : decode (jt_code 59) 212 = .ok (.iconst 5, 1) := by decide +kernel
theorem E59_212 {call : jv_F} {l0 l1 l2 l3 l4 : Option Value}  {st : List Value} {h : jv_H} : jv_ev call 59 212 [l0, l1, l2, l3, l4] st h = jv_ev call 59 213 [l0, l1, l2, l3, l4] (.int (nI 5) :: st) h := je_iconst D59_212 rfl (by decide)
theorem D59_213 : decode (jt_code 59) 213 = .ok (.if_icmp .ge 24, 3) := by decide +kernel
theorem E59_213 {call : jv_F} {l0 l1 l2 l3 l4 : Option Value} {x y : Int32} {st : List Value} {h : jv_H} : jv_ev call 59 213 [l0, l1, l2, l3, l4] (.int y :: .int x :: st) h = if y ≤ x then jv_ev call 59 237 [l0, l1, l2, l3, l4] st h else jv_ev call 59 216 [l0, l1, l2, l3, l4] st h := je_icmp D59_213 (by decide) rfl rfl
theorem D59_216 : decode (jt_code 59) 216 = .ok (.lload_n 1, 1) := by decide +kernel
theorem E59_216 {call : jv_F} {l0 l2 l3 l4 : Option Value} {x : Int64} {st : List Value} {h : jv_H} : jv_ev call 59 216 [l0, some (.long x), l2, l3, l4] st h = jv_ev call 59 217 [l0, some (.long x), l2, l3, l4] (.long x :: st) h := je_lload_n D59_216 rfl rfl
theorem D59_217 : decode (jt_code 59) 217 = .ok (.ldc2_w 302, 3) := by decide +kernel
theorem E59_217 {call : jv_F} {l0 l1 l2 l3 l4 : Option Value}  {st : List Value} {h : jv_H} : jv_ev call 59 217 [l0, l1, l2, l3, l4] st h = jv_ev call 59 220 [l0, l1, l2, l3, l4] (.long 31 :: st) h := je_ldc2 D59_217 rfl (by decide)
theorem D59_220 : decode (jt_code 59) 220 = .ok (.lmul, 1) := by decide +kernel
theorem E59_220 {call : jv_F} {l0 l1 l2 l3 l4 : Option Value} {x y : Int64} {st : List Value} {h : jv_H} : jv_ev call 59 220 [l0, l1, l2, l3, l4] (.long y :: .long x :: st) h = jv_ev call 59 221 [l0, l1, l2, l3, l4] (.long (x * y) :: st) h := je_l2 (f := fun x y => x * y) D59_220 rfl (fun _ => rfl)
theorem D59_221 : decode (jt_code 59) 221 = .ok (.aload_n 0, 1) := by decide +kernel
theorem E59_221 {call : jv_F} {l1 l2 l3 l4 : Option Value} {a : Nat} {st : List Value} {h : jv_H} : jv_ev call 59 221 [some (.ref a), l1, l2, l3, l4] st h = jv_ev call 59 222 [some (.ref a), l1, l2, l3, l4] (.ref a :: st) h := je_aload_n (r := some a) D59_221 rfl rfl
theorem D59_222 : decode (jt_code 59) 222 = .ok (.iload_n 3, 1) := by decide +kernel
theorem E59_222 {call : jv_F} {l0 l1 l2 l4 : Option Value} {x : Int32} {st : List Value} {h : jv_H} : jv_ev call 59 222 [l0, l1, l2, some (.int x), l4] st h = jv_ev call 59 223 [l0, l1, l2, some (.int x), l4] (.int x :: st) h := je_iload_n D59_222 rfl rfl
theorem D59_223 : decode (jt_code 59) 223 = .ok (.iload 4, 2) := by decide +kernel
theorem E59_223 {call : jv_F} {l0 l1 l2 l3 : Option Value} {x : Int32} {st : List Value} {h : jv_H} : jv_ev call 59 223 [l0, l1, l2, l3, some (.int x)] st h = jv_ev call 59 225 [l0, l1, l2, l3, some (.int x)] (.int x :: st) h := je_iload D59_223 rfl rfl
theorem D59_225 : decode (jt_code 59) 225 = .ok (.invokevirtual 307, 3) := by decide +kernel
theorem E59_225 {call : jv_F} {l0 l1 l2 l3 l4 : Option Value} {v0 v1 : Value}  {st : List Value} {m : Nat} {I : Nat → Int32} {A : Nat → Nat → Int32} {L : Nat → Nat → Int64} {rest : Nat → Option jv_C} {z : Nat × Nat} (hw : jv_wide st = true) (hc : (call 57 [.ref m, v0, v1] (jm_H m I A L rest z)).isSome = true) : jv_ev call 59 225 [l0, l1, l2, l3, l4] (v1 :: v0 :: .ref m :: st) (jm_H m I A L rest z) = jv_ev call 59 228 [l0, l1, l2, l3, l4] ((((call 57 [.ref m, v0, v1] (jm_H m I A L rest z)).getD (none, (jm_H m I A L rest z))).1).toList ++ st) ((call 57 [.ref m, v0, v1] (jm_H m I A L rest z)).getD (none, (jm_H m I A L rest z))).2 := by
  obtain ⟨⟨r, h'⟩, hv⟩ := Option.isSome_iff_exists.mp hc
  rw [hv]
  exact je_virt (y := 57) (as := [v0, v1]) D59_225 rfl (by decide) (by decide) rfl jm_cl hw hv
theorem D59_228 : decode (jt_code 59) 228 = .ok (.i2l, 1) := by decide +kernel
theorem E59_228 {call : jv_F} {l0 l1 l2 l3 l4 : Option Value} {x : Int32} {st : List Value} {h : jv_H} : jv_ev call 59 228 [l0, l1, l2, l3, l4] (.int x :: st) h = jv_ev call 59 229 [l0, l1, l2, l3, l4] (.long x.toInt64 :: st) h := je_i2l D59_228 rfl
theorem D59_229 : decode (jt_code 59) 229 = .ok (.ladd, 1) := by decide +kernel
theorem E59_229 {call : jv_F} {l0 l1 l2 l3 l4 : Option Value} {x y : Int64} {st : List Value} {h : jv_H} : jv_ev call 59 229 [l0, l1, l2, l3, l4] (.long y :: .long x :: st) h = jv_ev call 59 230 [l0, l1, l2, l3, l4] (.long (x + y) :: st) h := je_l2 (f := fun x y => x + y) D59_229 rfl (fun _ => rfl)
theorem D59_230 : decode (jt_code 59) 230 = .ok (.lstore_n 1, 1) := by decide +kernel
theorem E59_230 {call : jv_F} {l0 l1 l2 l3 l4 : Option Value} {x : Int64} {st : List Value} {h : jv_H} (hk : ¬ jv_is2 (some l0) = true) : jv_ev call 59 230 [l0, l1, l2, l3, l4] (.long x :: st) h = jv_ev call 59 231 [l0, some (.long x), none, l3, l4] st h := je_lstore_n D59_230 rfl (Nat.le_of_ble_eq_true rfl) (by show jv_st2 _ 1 _ = _; simp only [jv_st2, jv_kill, List.getElem?_cons_succ, List.getElem?_cons_zero, hk, if_false]; rfl)
theorem D59_231 : decode (jt_code 59) 231 = .ok (.iinc 4 1, 3) := by decide +kernel
theorem E59_231 {call : jv_F} {l0 l1 l2 l3 : Option Value} {x : Int32} {st : List Value} {h : jv_H} (hk : ¬ jv_is2 (some l3) = true) : jv_ev call 59 231 [l0, l1, l2, l3, some (.int x)] st h = jv_ev call 59 234 [l0, l1, l2, l3, some (.int (x + (nI 1)))] st h := je_iinc D59_231 rfl rfl (v := x + (nI 1)) (by rfl) (by show jv_st1 _ 4 _ = _; simp only [jv_st1, jv_kill, List.getElem?_cons_succ, List.getElem?_cons_zero, hk, if_false]; rfl)
theorem D59_234 : decode (jt_code 59) 234 = .ok (.goto (-24), 3) := by decide +kernel
theorem E59_234 {call : jv_F} {l0 l1 l2 l3 l4 : Option Value}  {st : List Value} {h : jv_H} : jv_ev call 59 234 [l0, l1, l2, l3, l4] st h = jv_ev call 59 210 [l0, l1, l2, l3, l4] st h := je_goto D59_234 (by decide)
theorem D59_237 : decode (jt_code 59) 237 = .ok (.iinc 3 1, 3) := by decide +kernel
theorem E59_237 {call : jv_F} {l0 l1 l2 l4 : Option Value} {x : Int32} {st : List Value} {h : jv_H} (hk : ¬ jv_is2 (some l2) = true) : jv_ev call 59 237 [l0, l1, l2, some (.int x), l4] st h = jv_ev call 59 240 [l0, l1, l2, some (.int (x + (nI 1))), l4] st h := je_iinc D59_237 rfl rfl (v := x + (nI 1)) (by rfl) (by show jv_st1 _ 3 _ = _; simp only [jv_st1, jv_kill, List.getElem?_cons_succ, List.getElem?_cons_zero, hk, if_false]; rfl)
theorem D59_240 : decode (jt_code 59) 240 = .ok (.goto (-41), 3) := by decide +kernel
theorem E59_240 {call : jv_F} {l0 l1 l2 l3 l4 : Option Value}  {st : List Value} {h : jv_H} : jv_ev call 59 240 [l0, l1, l2, l3, l4] st h = jv_ev call 59 199 [l0, l1, l2, l3, l4] st h := je_goto D59_240 (by decide)
theorem D59_243 : decode (jt_code 59) 243 = .ok (.lload_n 1, 1) := by decide +kernel
theorem E59_243 {call : jv_F} {l0 l2 l3 l4 : Option Value} {x : Int64} {st : List Value} {h : jv_H} : jv_ev call 59 243 [l0, some (.long x), l2, l3, l4] st h = jv_ev call 59 244 [l0, some (.long x), l2, l3, l4] (.long x :: st) h := je_lload_n D59_243 rfl rfl
theorem D59_244 : decode (jt_code 59) 244 = .ok (.lreturn, 1) := by decide +kernel
theorem E59_244 {call : jv_F} {l0 l1 l2 l3 l4 : Option Value} {v : Int64} {h : jv_H} : jv_ev call 59 244 [l0, l1, l2, l3, l4] [.long v] h = some (some (.long v), h) := je_lret D59_244 rfl
