/-! method 60: DrumMachine$Block.<init> -/
theorem N60 {d : Nat} {b : Nat} {a0 : Option Nat} {a1 : Int32} {h : jv_H} : jv_run (d + 1) 60 [.ref b, va_rf a0, .int a1] h = jv_ev (jv_run d) 60 0 [some (.ref b), some (va_rf a0), some (.int a1)] [] h := by
  cases a0 <;>
  exact jv_run_eq (Nat.le_of_ble_eq_true rfl) rfl
theorem D60_0 : decode (jt_code 60) 0 = .ok (.aload_n 0, 1) := by decide +kernel
theorem E60_0 {call : jv_F} {l1 l2 : Option Value} {a : Nat} {st : List Value} {h : jv_H} : jv_ev call 60 0 [some (.ref a), l1, l2] st h = jv_ev call 60 1 [some (.ref a), l1, l2] (.ref a :: st) h := je_aload_n (r := some a) D60_0 rfl rfl
theorem D60_1 : decode (jt_code 60) 1 = .ok (.invokespecial 3, 3) := by decide +kernel
theorem E60_1 {call : jv_F} {l0 l1 l2 : Option Value} {b : Nat} {st : List Value} {h : jv_H} (hw : jv_wide st = true) : jv_ev call 60 1 [l0, l1, l2] (.ref b :: st) h = jv_ev call 60 4 [l0, l1, l2] st h := je_obj D60_1 rfl (by decide) hw
theorem D60_4 : decode (jt_code 60) 4 = .ok (.aload_n 0, 1) := by decide +kernel
theorem E60_4 {call : jv_F} {l1 l2 : Option Value} {a : Nat} {st : List Value} {h : jv_H} : jv_ev call 60 4 [some (.ref a), l1, l2] st h = jv_ev call 60 5 [some (.ref a), l1, l2] (.ref a :: st) h := je_aload_n (r := some a) D60_4 rfl rfl
theorem D60_5 : decode (jt_code 60) 5 = .ok (.iconst (-1), 1) := by decide +kernel
theorem E60_5 {call : jv_F} {l0 l1 l2 : Option Value}  {st : List Value} {h : jv_H} : jv_ev call 60 5 [l0, l1, l2] st h = jv_ev call 60 6 [l0, l1, l2] (.int (-1) :: st) h := je_iconst D60_5 rfl (by decide)
theorem D60_6 : decode (jt_code 60) 6 = .ok (.putfield 9, 3) := by decide +kernel
theorem E60_6 {call : jv_F} {l0 l1 l2 : Option Value} {a : Nat} {v : Value} {st : List Value} {h : jv_H} (hs : (jv_pf h a 1 2 v).isSome = true) : jv_ev call 60 6 [l0, l1, l2] (v :: .ref a :: st) h = jv_ev call 60 9 [l0, l1, l2] st ((jv_pf h a 1 2 v).getD h) := by
  obtain ⟨h', hv⟩ := Option.isSome_iff_exists.mp hs
  rw [hv]
  exact je_put D60_6 rfl (by decide) (by decide) hv
theorem D60_9 : decode (jt_code 60) 9 = .ok (.aload_n 0, 1) := by decide +kernel
theorem E60_9 {call : jv_F} {l1 l2 : Option Value} {a : Nat} {st : List Value} {h : jv_H} : jv_ev call 60 9 [some (.ref a), l1, l2] st h = jv_ev call 60 10 [some (.ref a), l1, l2] (.ref a :: st) h := je_aload_n (r := some a) D60_9 rfl rfl
theorem D60_10 : decode (jt_code 60) 10 = .ok (.iconst (-1), 1) := by decide +kernel
theorem E60_10 {call : jv_F} {l0 l1 l2 : Option Value}  {st : List Value} {h : jv_H} : jv_ev call 60 10 [l0, l1, l2] st h = jv_ev call 60 11 [l0, l1, l2] (.int (-1) :: st) h := je_iconst D60_10 rfl (by decide)
theorem D60_11 : decode (jt_code 60) 11 = .ok (.putfield 15, 3) := by decide +kernel
theorem E60_11 {call : jv_F} {l0 l1 l2 : Option Value} {a : Nat} {v : Value} {st : List Value} {h : jv_H} (hs : (jv_pf h a 1 3 v).isSome = true) : jv_ev call 60 11 [l0, l1, l2] (v :: .ref a :: st) h = jv_ev call 60 14 [l0, l1, l2] st ((jv_pf h a 1 3 v).getD h) := by
  obtain ⟨h', hv⟩ := Option.isSome_iff_exists.mp hs
  rw [hv]
  exact je_put D60_11 rfl (by decide) (by decide) hv
theorem D60_14 : decode (jt_code 60) 14 = .ok (.aload_n 0, 1) := by decide +kernel
theorem E60_14 {call : jv_F} {l1 l2 : Option Value} {a : Nat} {st : List Value} {h : jv_H} : jv_ev call 60 14 [some (.ref a), l1, l2] st h = jv_ev call 60 15 [some (.ref a), l1, l2] (.ref a :: st) h := je_aload_n (r := some a) D60_14 rfl rfl
theorem D60_15 : decode (jt_code 60) 15 = .ok (.iconst 0, 1) := by decide +kernel
theorem E60_15 {call : jv_F} {l0 l1 l2 : Option Value}  {st : List Value} {h : jv_H} : jv_ev call 60 15 [l0, l1, l2] st h = jv_ev call 60 16 [l0, l1, l2] (.int (nI 0) :: st) h := je_iconst D60_15 rfl (by decide)
theorem D60_16 : decode (jt_code 60) 16 = .ok (.putfield 18, 3) := by decide +kernel
theorem E60_16 {call : jv_F} {l0 l1 l2 : Option Value} {a : Nat} {v : Value} {st : List Value} {h : jv_H} (hs : (jv_pf h a 1 4 v).isSome = true) : jv_ev call 60 16 [l0, l1, l2] (v :: .ref a :: st) h = jv_ev call 60 19 [l0, l1, l2] st ((jv_pf h a 1 4 v).getD h) := by
  obtain ⟨h', hv⟩ := Option.isSome_iff_exists.mp hs
  rw [hv]
  exact je_put D60_16 rfl (by decide) (by decide) hv
theorem D60_19 : decode (jt_code 60) 19 = .ok (.aload_n 0, 1) := by decide +kernel
theorem E60_19 {call : jv_F} {l1 l2 : Option Value} {a : Nat} {st : List Value} {h : jv_H} : jv_ev call 60 19 [some (.ref a), l1, l2] st h = jv_ev call 60 20 [some (.ref a), l1, l2] (.ref a :: st) h := je_aload_n (r := some a) D60_19 rfl rfl
theorem D60_20 : decode (jt_code 60) 20 = .ok (.iconst 0, 1) := by decide +kernel
theorem E60_20 {call : jv_F} {l0 l1 l2 : Option Value}  {st : List Value} {h : jv_H} : jv_ev call 60 20 [l0, l1, l2] st h = jv_ev call 60 21 [l0, l1, l2] (.int (nI 0) :: st) h := je_iconst D60_20 rfl (by decide)
theorem D60_21 : decode (jt_code 60) 21 = .ok (.putfield 22, 3) := by decide +kernel
theorem E60_21 {call : jv_F} {l0 l1 l2 : Option Value} {a : Nat} {v : Value} {st : List Value} {h : jv_H} (hs : (jv_pf h a 1 5 v).isSome = true) : jv_ev call 60 21 [l0, l1, l2] (v :: .ref a :: st) h = jv_ev call 60 24 [l0, l1, l2] st ((jv_pf h a 1 5 v).getD h) := by
  obtain ⟨h', hv⟩ := Option.isSome_iff_exists.mp hs
  rw [hv]
  exact je_put D60_21 rfl (by decide) (by decide) hv
theorem D60_24 : decode (jt_code 60) 24 = .ok (.aload_n 0, 1) := by decide +kernel
theorem E60_24 {call : jv_F} {l1 l2 : Option Value} {a : Nat} {st : List Value} {h : jv_H} : jv_ev call 60 24 [some (.ref a), l1, l2] st h = jv_ev call 60 25 [some (.ref a), l1, l2] (.ref a :: st) h := je_aload_n (r := some a) D60_24 rfl rfl
theorem D60_25 : decode (jt_code 60) 25 = .ok (.iconst 0, 1) := by decide +kernel
theorem E60_25 {call : jv_F} {l0 l1 l2 : Option Value}  {st : List Value} {h : jv_H} : jv_ev call 60 25 [l0, l1, l2] st h = jv_ev call 60 26 [l0, l1, l2] (.int (nI 0) :: st) h := je_iconst D60_25 rfl (by decide)
theorem D60_26 : decode (jt_code 60) 26 = .ok (.putfield 25, 3) := by decide +kernel
theorem E60_26 {call : jv_F} {l0 l1 l2 : Option Value} {a : Nat} {v : Value} {st : List Value} {h : jv_H} (hs : (jv_pf h a 1 6 v).isSome = true) : jv_ev call 60 26 [l0, l1, l2] (v :: .ref a :: st) h = jv_ev call 60 29 [l0, l1, l2] st ((jv_pf h a 1 6 v).getD h) := by
  obtain ⟨h', hv⟩ := Option.isSome_iff_exists.mp hs
  rw [hv]
  exact je_put D60_26 rfl (by decide) (by decide) hv
theorem D60_29 : decode (jt_code 60) 29 = .ok (.aload_n 0, 1) := by decide +kernel
theorem E60_29 {call : jv_F} {l1 l2 : Option Value} {a : Nat} {st : List Value} {h : jv_H} : jv_ev call 60 29 [some (.ref a), l1, l2] st h = jv_ev call 60 30 [some (.ref a), l1, l2] (.ref a :: st) h := je_aload_n (r := some a) D60_29 rfl rfl
theorem D60_30 : decode (jt_code 60) 30 = .ok (.iconst 0, 1) := by decide +kernel
theorem E60_30 {call : jv_F} {l0 l1 l2 : Option Value}  {st : List Value} {h : jv_H} : jv_ev call 60 30 [l0, l1, l2] st h = jv_ev call 60 31 [l0, l1, l2] (.int (nI 0) :: st) h := je_iconst D60_30 rfl (by decide)
theorem D60_31 : decode (jt_code 60) 31 = .ok (.putfield 28, 3) := by decide +kernel
theorem E60_31 {call : jv_F} {l0 l1 l2 : Option Value} {a : Nat} {v : Value} {st : List Value} {h : jv_H} (hs : (jv_pf h a 1 7 v).isSome = true) : jv_ev call 60 31 [l0, l1, l2] (v :: .ref a :: st) h = jv_ev call 60 34 [l0, l1, l2] st ((jv_pf h a 1 7 v).getD h) := by
  obtain ⟨h', hv⟩ := Option.isSome_iff_exists.mp hs
  rw [hv]
  exact je_put D60_31 rfl (by decide) (by decide) hv
theorem D60_34 : decode (jt_code 60) 34 = .ok (.aload_n 0, 1) := by decide +kernel
theorem E60_34 {call : jv_F} {l1 l2 : Option Value} {a : Nat} {st : List Value} {h : jv_H} : jv_ev call 60 34 [some (.ref a), l1, l2] st h = jv_ev call 60 35 [some (.ref a), l1, l2] (.ref a :: st) h := je_aload_n (r := some a) D60_34 rfl rfl
theorem D60_35 : decode (jt_code 60) 35 = .ok (.iconst (-1), 1) := by decide +kernel
theorem E60_35 {call : jv_F} {l0 l1 l2 : Option Value}  {st : List Value} {h : jv_H} : jv_ev call 60 35 [l0, l1, l2] st h = jv_ev call 60 36 [l0, l1, l2] (.int (-1) :: st) h := je_iconst D60_35 rfl (by decide)
theorem D60_36 : decode (jt_code 60) 36 = .ok (.putfield 31, 3) := by decide +kernel
theorem E60_36 {call : jv_F} {l0 l1 l2 : Option Value} {a : Nat} {v : Value} {st : List Value} {h : jv_H} (hs : (jv_pf h a 1 8 v).isSome = true) : jv_ev call 60 36 [l0, l1, l2] (v :: .ref a :: st) h = jv_ev call 60 39 [l0, l1, l2] st ((jv_pf h a 1 8 v).getD h) := by
  obtain ⟨h', hv⟩ := Option.isSome_iff_exists.mp hs
  rw [hv]
  exact je_put D60_36 rfl (by decide) (by decide) hv
theorem D60_39 : decode (jt_code 60) 39 = .ok (.aload_n 0, 1) := by decide +kernel
theorem E60_39 {call : jv_F} {l1 l2 : Option Value} {a : Nat} {st : List Value} {h : jv_H} : jv_ev call 60 39 [some (.ref a), l1, l2] st h = jv_ev call 60 40 [some (.ref a), l1, l2] (.ref a :: st) h := je_aload_n (r := some a) D60_39 rfl rfl
theorem D60_40 : decode (jt_code 60) 40 = .ok (.iconst (-1), 1) := by decide +kernel
theorem E60_40 {call : jv_F} {l0 l1 l2 : Option Value}  {st : List Value} {h : jv_H} : jv_ev call 60 40 [l0, l1, l2] st h = jv_ev call 60 41 [l0, l1, l2] (.int (-1) :: st) h := je_iconst D60_40 rfl (by decide)
theorem D60_41 : decode (jt_code 60) 41 = .ok (.putfield 34, 3) := by decide +kernel
theorem E60_41 {call : jv_F} {l0 l1 l2 : Option Value} {a : Nat} {v : Value} {st : List Value} {h : jv_H} (hs : (jv_pf h a 1 9 v).isSome = true) : jv_ev call 60 41 [l0, l1, l2] (v :: .ref a :: st) h = jv_ev call 60 44 [l0, l1, l2] st ((jv_pf h a 1 9 v).getD h) := by
  obtain ⟨h', hv⟩ := Option.isSome_iff_exists.mp hs
  rw [hv]
  exact je_put D60_41 rfl (by decide) (by decide) hv
theorem D60_44 : decode (jt_code 60) 44 = .ok (.aload_n 0, 1) := by decide +kernel
theorem E60_44 {call : jv_F} {l1 l2 : Option Value} {a : Nat} {st : List Value} {h : jv_H} : jv_ev call 60 44 [some (.ref a), l1, l2] st h = jv_ev call 60 45 [some (.ref a), l1, l2] (.ref a :: st) h := je_aload_n (r := some a) D60_44 rfl rfl
theorem D60_45 : decode (jt_code 60) 45 = .ok (.aload_n 1, 1) := by decide +kernel
theorem E60_45 {call : jv_F} {l0 l2 : Option Value} {a : Nat} {st : List Value} {h : jv_H} : jv_ev call 60 45 [l0, some (.ref a), l2] st h = jv_ev call 60 46 [l0, some (.ref a), l2] (.ref a :: st) h := je_aload_n (r := some a) D60_45 rfl rfl
theorem E60_45r {call : jv_F} {l0 l2 : Option Value} {r : Option Nat} {st : List Value} {h : jv_H} : jv_ev call 60 45 [l0, some (va_rf r), l2] st h = jv_ev call 60 46 [l0, some (va_rf r), l2] (va_rf r :: st) h := je_aload_n (r := r) D60_45 rfl rfl
theorem D60_46 : decode (jt_code 60) 46 = .ok (.putfield 37, 3) := by decide +kernel
theorem E60_46 {call : jv_F} {l0 l1 l2 : Option Value} {a : Nat} {v : Value} {st : List Value} {h : jv_H} (hs : (jv_pf h a 1 0 v).isSome = true) : jv_ev call 60 46 [l0, l1, l2] (v :: .ref a :: st) h = jv_ev call 60 49 [l0, l1, l2] st ((jv_pf h a 1 0 v).getD h) := by
  obtain ⟨h', hv⟩ := Option.isSome_iff_exists.mp hs
  rw [hv]
  exact je_put D60_46 rfl (by decide) (by decide) hv
theorem D60_49 : decode (jt_code 60) 49 = .ok (.aload_n 0, 1) := by decide +kernel
theorem E60_49 {call : jv_F} {l1 l2 : Option Value} {a : Nat} {st : List Value} {h : jv_H} : jv_ev call 60 49 [some (.ref a), l1, l2] st h = jv_ev call 60 50 [some (.ref a), l1, l2] (.ref a :: st) h := je_aload_n (r := some a) D60_49 rfl rfl
theorem D60_50 : decode (jt_code 60) 50 = .ok (.iload_n 2, 1) := by decide +kernel
theorem E60_50 {call : jv_F} {l0 l1 : Option Value} {x : Int32} {st : List Value} {h : jv_H} : jv_ev call 60 50 [l0, l1, some (.int x)] st h = jv_ev call 60 51 [l0, l1, some (.int x)] (.int x :: st) h := je_iload_n D60_50 rfl rfl
theorem D60_51 : decode (jt_code 60) 51 = .ok (.putfield 41, 3) := by decide +kernel
theorem E60_51 {call : jv_F} {l0 l1 l2 : Option Value} {a : Nat} {v : Value} {st : List Value} {h : jv_H} (hs : (jv_pf h a 1 1 v).isSome = true) : jv_ev call 60 51 [l0, l1, l2] (v :: .ref a :: st) h = jv_ev call 60 54 [l0, l1, l2] st ((jv_pf h a 1 1 v).getD h) := by
  obtain ⟨h', hv⟩ := Option.isSome_iff_exists.mp hs
  rw [hv]
  exact je_put D60_51 rfl (by decide) (by decide) hv
theorem D60_54 : decode (jt_code 60) 54 = .ok (.return_, 1) := by decide +kernel
theorem E60_54 {call : jv_F} {l0 l1 l2 : Option Value}  {h : jv_H} : jv_ev call 60 54 [l0, l1, l2] [] h = some (none, h) := je_ret D60_54 rfl
/-! method 81: DrumMachine$Drum.ask -/
theorem N81 {d : Nat} {b : Nat} {a0 : Option Nat} {h : jv_H} : jv_run (d + 1) 81 [.ref b, va_rf a0] h = jv_ev (jv_run d) 81 0 [some (.ref b), some (va_rf a0)] [] h := by
  cases a0 <;>
  exact jv_run_eq (Nat.le_of_ble_eq_true rfl) rfl
theorem D81_0 : decode (jt_code 81) 0 = .ok (.aload_n 0, 1) := by decide +kernel
theorem E81_0 {call : jv_F} {l1 : Option Value} {a : Nat} {st : List Value} {h : jv_H} : jv_ev call 81 0 [some (.ref a), l1] st h = jv_ev call 81 1 [some (.ref a), l1] (.ref a :: st) h := je_aload_n (r := some a) D81_0 rfl rfl
theorem D81_1 : decode (jt_code 81) 1 = .ok (.getfield 20, 3) := by decide +kernel
theorem E81_1 {call : jv_F} {l0 l1 : Option Value} {a : Nat} {st : List Value} {h : jv_H} (hs : (jv_gf h a 3 2).isSome = true) : jv_ev call 81 1 [l0, l1] (.ref a :: st) h = jv_ev call 81 4 [l0, l1] ((jv_gf h a 3 2).getD .null :: st) h := by
  obtain ⟨v, hv⟩ := Option.isSome_iff_exists.mp hs
  rw [hv]
  exact je_get D81_1 rfl (by decide) hv
theorem D81_4 : decode (jt_code 81) 4 = .ok (.bipush 17, 2) := by decide +kernel
theorem E81_4 {call : jv_F} {l0 l1 : Option Value}  {st : List Value} {h : jv_H} : jv_ev call 81 4 [l0, l1] st h = jv_ev call 81 6 [l0, l1] (.int (nI 17) :: st) h := je_bipush D81_4 rfl (by decide)
theorem D81_6 : decode (jt_code 81) 6 = .ok (.if_icmp .ge 46, 3) := by decide +kernel
theorem E81_6 {call : jv_F} {l0 l1 : Option Value} {x y : Int32} {st : List Value} {h : jv_H} : jv_ev call 81 6 [l0, l1] (.int y :: .int x :: st) h = if y ≤ x then jv_ev call 81 52 [l0, l1] st h else jv_ev call 81 9 [l0, l1] st h := je_icmp D81_6 (by decide) rfl rfl
theorem D81_9 : decode (jt_code 81) 9 = .ok (.aload_n 0, 1) := by decide +kernel
theorem E81_9 {call : jv_F} {l1 : Option Value} {a : Nat} {st : List Value} {h : jv_H} : jv_ev call 81 9 [some (.ref a), l1] st h = jv_ev call 81 10 [some (.ref a), l1] (.ref a :: st) h := je_aload_n (r := some a) D81_9 rfl rfl
theorem D81_10 : decode (jt_code 81) 10 = .ok (.getfield 17, 3) := by decide +kernel
theorem E81_10 {call : jv_F} {l0 l1 : Option Value} {a : Nat} {st : List Value} {h : jv_H} (hs : (jv_gf h a 3 1).isSome = true) : jv_ev call 81 10 [l0, l1] (.ref a :: st) h = jv_ev call 81 13 [l0, l1] ((jv_gf h a 3 1).getD .null :: st) h := by
  obtain ⟨v, hv⟩ := Option.isSome_iff_exists.mp hs
  rw [hv]
  exact je_get D81_10 rfl (by decide) hv
theorem D81_13 : decode (jt_code 81) 13 = .ok (.aload_n 0, 1) := by decide +kernel
theorem E81_13 {call : jv_F} {l1 : Option Value} {a : Nat} {st : List Value} {h : jv_H} : jv_ev call 81 13 [some (.ref a), l1] st h = jv_ev call 81 14 [some (.ref a), l1] (.ref a :: st) h := je_aload_n (r := some a) D81_13 rfl rfl
theorem D81_14 : decode (jt_code 81) 14 = .ok (.getfield 20, 3) := by decide +kernel
theorem E81_14 {call : jv_F} {l0 l1 : Option Value} {a : Nat} {st : List Value} {h : jv_H} (hs : (jv_gf h a 3 2).isSome = true) : jv_ev call 81 14 [l0, l1] (.ref a :: st) h = jv_ev call 81 17 [l0, l1] ((jv_gf h a 3 2).getD .null :: st) h := by
  obtain ⟨v, hv⟩ := Option.isSome_iff_exists.mp hs
  rw [hv]
  exact je_get D81_14 rfl (by decide) hv
theorem D81_17 : decode (jt_code 81) 17 = .ok (.aload_n 1, 1) := by decide +kernel
theorem E81_17 {call : jv_F} {l0 : Option Value} {a : Nat} {st : List Value} {h : jv_H} : jv_ev call 81 17 [l0, some (.ref a)] st h = jv_ev call 81 18 [l0, some (.ref a)] (.ref a :: st) h := je_aload_n (r := some a) D81_17 rfl rfl
theorem E81_17r {call : jv_F} {l0 : Option Value} {r : Option Nat} {st : List Value} {h : jv_H} : jv_ev call 81 17 [l0, some (va_rf r)] st h = jv_ev call 81 18 [l0, some (va_rf r)] (va_rf r :: st) h := je_aload_n (r := r) D81_17 rfl rfl
theorem D81_18 : decode (jt_code 81) 18 = .ok (.aastore, 1) := by decide +kernel
theorem E81_18 {call : jv_F} {l0 l1 : Option Value} {a : Nat} {j : Int32} {C : String} {v : Value} {st : List Value} {h : jv_H} (hC : jv_kn h a = some C) (hA : jv_isA h C v = true) (hs : (jv_as h a (.object C) j v).isSome = true) : jv_ev call 81 18 [l0, l1] (v :: .int j :: .ref a :: st) h = jv_ev call 81 19 [l0, l1] st ((jv_as h a (.object C) j v).getD h) := by
  obtain ⟨h', hv⟩ := Option.isSome_iff_exists.mp hs
  rw [hv]
  exact je_aast D81_18 rfl hC hA hv
theorem D81_19 : decode (jt_code 81) 19 = .ok (.aload_n 0, 1) := by decide +kernel
theorem E81_19 {call : jv_F} {l1 : Option Value} {a : Nat} {st : List Value} {h : jv_H} : jv_ev call 81 19 [some (.ref a), l1] st h = jv_ev call 81 20 [some (.ref a), l1] (.ref a :: st) h := je_aload_n (r := some a) D81_19 rfl rfl
theorem D81_20 : decode (jt_code 81) 20 = .ok (.dup, 1) := by decide +kernel
theorem E81_20 {call : jv_F} {l0 l1 : Option Value} {a : Nat} {st : List Value} {h : jv_H} : jv_ev call 81 20 [l0, l1] (.ref a :: st) h = jv_ev call 81 21 [l0, l1] (.ref a :: .ref a :: st) h := je_dup D81_20 rfl rfl
theorem E81_20i {call : jv_F} {l0 l1 : Option Value} {x : Int32} {st : List Value} {h : jv_H} : jv_ev call 81 20 [l0, l1] (.int x :: st) h = jv_ev call 81 21 [l0, l1] (.int x :: .int x :: st) h := je_dup D81_20 rfl rfl
theorem D81_21 : decode (jt_code 81) 21 = .ok (.getfield 20, 3) := by decide +kernel
theorem E81_21 {call : jv_F} {l0 l1 : Option Value} {a : Nat} {st : List Value} {h : jv_H} (hs : (jv_gf h a 3 2).isSome = true) : jv_ev call 81 21 [l0, l1] (.ref a :: st) h = jv_ev call 81 24 [l0, l1] ((jv_gf h a 3 2).getD .null :: st) h := by
  obtain ⟨v, hv⟩ := Option.isSome_iff_exists.mp hs
  rw [hv]
  exact je_get D81_21 rfl (by decide) hv
theorem D81_24 : decode (jt_code 81) 24 = .ok (.iconst 1, 1) := by decide +kernel
theorem E81_24 {call : jv_F} {l0 l1 : Option Value}  {st : List Value} {h : jv_H} : jv_ev call 81 24 [l0, l1] st h = jv_ev call 81 25 [l0, l1] (.int (nI 1) :: st) h := je_iconst D81_24 rfl (by decide)
theorem D81_25 : decode (jt_code 81) 25 = .ok (.iadd, 1) := by decide +kernel
theorem E81_25 {call : jv_F} {l0 l1 : Option Value} {x y : Int32} {st : List Value} {h : jv_H} : jv_ev call 81 25 [l0, l1] (.int y :: .int x :: st) h = jv_ev call 81 26 [l0, l1] (.int (x + y) :: st) h := je_b2 (f := fun x y => x + y) D81_25 rfl (fun _ => rfl)
theorem D81_26 : decode (jt_code 81) 26 = .ok (.putfield 20, 3) := by decide +kernel
theorem E81_26 {call : jv_F} {l0 l1 : Option Value} {a : Nat} {v : Value} {st : List Value} {h : jv_H} (hs : (jv_pf h a 3 2 v).isSome = true) : jv_ev call 81 26 [l0, l1] (v :: .ref a :: st) h = jv_ev call 81 29 [l0, l1] st ((jv_pf h a 3 2 v).getD h) := by
  obtain ⟨h', hv⟩ := Option.isSome_iff_exists.mp hs
  rw [hv]
  exact je_put D81_26 rfl (by decide) (by decide) hv
theorem D81_29 : decode (jt_code 81) 29 = .ok (.aload_n 0, 1) := by decide +kernel
theorem E81_29 {call : jv_F} {l1 : Option Value} {a : Nat} {st : List Value} {h : jv_H} : jv_ev call 81 29 [some (.ref a), l1] st h = jv_ev call 81 30 [some (.ref a), l1] (.ref a :: st) h := je_aload_n (r := some a) D81_29 rfl rfl
theorem D81_30 : decode (jt_code 81) 30 = .ok (.aload_n 0, 1) := by decide +kernel
theorem E81_30 {call : jv_F} {l1 : Option Value} {a : Nat} {st : List Value} {h : jv_H} : jv_ev call 81 30 [some (.ref a), l1] st h = jv_ev call 81 31 [some (.ref a), l1] (.ref a :: st) h := je_aload_n (r := some a) D81_30 rfl rfl
theorem D81_31 : decode (jt_code 81) 31 = .ok (.getfield 31, 3) := by decide +kernel
theorem E81_31 {call : jv_F} {l0 l1 : Option Value} {a : Nat} {st : List Value} {h : jv_H} (hs : (jv_gf h a 3 5).isSome = true) : jv_ev call 81 31 [l0, l1] (.ref a :: st) h = jv_ev call 81 34 [l0, l1] ((jv_gf h a 3 5).getD .null :: st) h := by
  obtain ⟨v, hv⟩ := Option.isSome_iff_exists.mp hs
  rw [hv]
  exact je_get D81_31 rfl (by decide) hv
theorem D81_34 : decode (jt_code 81) 34 = .ok (.ifCond .ne 10, 3) := by decide +kernel
theorem E81_34 {call : jv_F} {l0 l1 : Option Value} {x : Int32} {st : List Value} {h : jv_H} : jv_ev call 81 34 [l0, l1] (.int x :: st) h = if ¬ x = 0 then jv_ev call 81 44 [l0, l1] st h else jv_ev call 81 37 [l0, l1] st h := je_ifc D81_34 (by decide) rfl rfl
theorem D81_37 : decode (jt_code 81) 37 = .ok (.aload_n 1, 1) := by decide +kernel
theorem E81_37 {call : jv_F} {l0 : Option Value} {a : Nat} {st : List Value} {h : jv_H} : jv_ev call 81 37 [l0, some (.ref a)] st h = jv_ev call 81 38 [l0, some (.ref a)] (.ref a :: st) h := je_aload_n (r := some a) D81_37 rfl rfl
theorem E81_37r {call : jv_F} {l0 : Option Value} {r : Option Nat} {st : List Value} {h : jv_H} : jv_ev call 81 37 [l0, some (va_rf r)] st h = jv_ev call 81 38 [l0, some (va_rf r)] (va_rf r :: st) h := je_aload_n (r := r) D81_37 rfl rfl
theorem D81_38 : decode (jt_code 81) 38 = .ok (.getfield 48, 3) := by decide +kernel
theorem E81_38 {call : jv_F} {l0 l1 : Option Value} {a : Nat} {st : List Value} {h : jv_H} (hs : (jv_gf h a 1 5).isSome = true) : jv_ev call 81 38 [l0, l1] (.ref a :: st) h = jv_ev call 81 41 [l0, l1] ((jv_gf h a 1 5).getD .null :: st) h := by
  obtain ⟨v, hv⟩ := Option.isSome_iff_exists.mp hs
  rw [hv]
  exact je_get D81_38 rfl (by decide) hv
theorem D81_41 : decode (jt_code 81) 41 = .ok (.ifCond .eq 7, 3) := by decide +kernel
theorem E81_41 {call : jv_F} {l0 l1 : Option Value} {x : Int32} {st : List Value} {h : jv_H} : jv_ev call 81 41 [l0, l1] (.int x :: st) h = if x = 0 then jv_ev call 81 48 [l0, l1] st h else jv_ev call 81 44 [l0, l1] st h := je_ifc D81_41 (by decide) rfl rfl
theorem D81_44 : decode (jt_code 81) 44 = .ok (.iconst 1, 1) := by decide +kernel
theorem E81_44 {call : jv_F} {l0 l1 : Option Value}  {st : List Value} {h : jv_H} : jv_ev call 81 44 [l0, l1] st h = jv_ev call 81 45 [l0, l1] (.int (nI 1) :: st) h := je_iconst D81_44 rfl (by decide)
theorem D81_45 : decode (jt_code 81) 45 = .ok (.goto 4, 3) := by decide +kernel
theorem E81_45 {call : jv_F} {l0 l1 : Option Value}  {st : List Value} {h : jv_H} : jv_ev call 81 45 [l0, l1] st h = jv_ev call 81 49 [l0, l1] st h := je_goto D81_45 (by decide)
theorem D81_48 : decode (jt_code 81) 48 = .ok (.iconst 0, 1) := by decide +kernel
theorem E81_48 {call : jv_F} {l0 l1 : Option Value}  {st : List Value} {h : jv_H} : jv_ev call 81 48 [l0, l1] st h = jv_ev call 81 49 [l0, l1] (.int (nI 0) :: st) h := je_iconst D81_48 rfl (by decide)
theorem D81_49 : decode (jt_code 81) 49 = .ok (.putfield 31, 3) := by decide +kernel
theorem E81_49 {call : jv_F} {l0 l1 : Option Value} {a : Nat} {v : Value} {st : List Value} {h : jv_H} (hs : (jv_pf h a 3 5 v).isSome = true) : jv_ev call 81 49 [l0, l1] (v :: .ref a :: st) h = jv_ev call 81 52 [l0, l1] st ((jv_pf h a 3 5 v).getD h) := by
  obtain ⟨h', hv⟩ := Option.isSome_iff_exists.mp hs
  rw [hv]
  exact je_put D81_49 rfl (by decide) (by decide) hv
theorem D81_52 : decode (jt_code 81) 52 = .ok (.return_, 1) := by decide +kernel
theorem E81_52 {call : jv_F} {l0 l1 : Option Value}  {h : jv_H} : jv_ev call 81 52 [l0, l1] [] h = some (none, h) := je_ret D81_52 rfl
/-! method 82: DrumMachine$Drum.cancel -/
theorem N82 {d : Nat} {b : Nat} {a0 : Option Nat} {h : jv_H} : jv_run (d + 1) 82 [.ref b, va_rf a0] h = jv_ev (jv_run d) 82 0 [some (.ref b), some (va_rf a0), none] [] h := by
  cases a0 <;>
  exact jv_run_eq (Nat.le_of_ble_eq_true rfl) rfl
theorem D82_0 : decode (jt_code 82) 0 = .ok (.iconst 0, 1) := by decide +kernel
theorem E82_0 {call : jv_F} {l0 l1 l2 : Option Value}  {st : List Value} {h : jv_H} : jv_ev call 82 0 [l0, l1, l2] st h = jv_ev call 82 1 [l0, l1, l2] (.int (nI 0) :: st) h := je_iconst D82_0 rfl (by decide)
theorem D82_1 : decode (jt_code 82) 1 = .ok (.istore_n 2, 1) := by decide +kernel
theorem E82_1 {call : jv_F} {l0 l1 l2 : Option Value} {x : Int32} {st : List Value} {h : jv_H} (hk : ¬ jv_is2 (some l1) = true) : jv_ev call 82 1 [l0, l1, l2] (.int x :: st) h = jv_ev call 82 2 [l0, l1, some (.int x)] st h := je_istore_n D82_1 rfl (Nat.le_of_ble_eq_true rfl) (by show jv_st1 _ 2 _ = _; simp only [jv_st1, jv_kill, List.getElem?_cons_succ, List.getElem?_cons_zero, hk, if_false]; rfl)
theorem D82_2 : decode (jt_code 82) 2 = .ok (.iload_n 2, 1) := by decide +kernel
theorem E82_2 {call : jv_F} {l0 l1 : Option Value} {x : Int32} {st : List Value} {h : jv_H} : jv_ev call 82 2 [l0, l1, some (.int x)] st h = jv_ev call 82 3 [l0, l1, some (.int x)] (.int x :: st) h := je_iload_n D82_2 rfl rfl
theorem D82_3 : decode (jt_code 82) 3 = .ok (.aload_n 0, 1) := by decide +kernel
theorem E82_3 {call : jv_F} {l1 l2 : Option Value} {a : Nat} {st : List Value} {h : jv_H} : jv_ev call 82 3 [some (.ref a), l1, l2] st h = jv_ev call 82 4 [some (.ref a), l1, l2] (.ref a :: st) h := je_aload_n (r := some a) D82_3 rfl rfl
theorem D82_4 : decode (jt_code 82) 4 = .ok (.getfield 20, 3) := by decide +kernel
theorem E82_4 {call : jv_F} {l0 l1 l2 : Option Value} {a : Nat} {st : List Value} {h : jv_H} (hs : (jv_gf h a 3 2).isSome = true) : jv_ev call 82 4 [l0, l1, l2] (.ref a :: st) h = jv_ev call 82 7 [l0, l1, l2] ((jv_gf h a 3 2).getD .null :: st) h := by
  obtain ⟨v, hv⟩ := Option.isSome_iff_exists.mp hs
  rw [hv]
  exact je_get D82_4 rfl (by decide) hv
theorem D82_7 : decode (jt_code 82) 7 = .ok (.if_icmp .ge 54, 3) := by decide +kernel
theorem E82_7 {call : jv_F} {l0 l1 l2 : Option Value} {x y : Int32} {st : List Value} {h : jv_H} : jv_ev call 82 7 [l0, l1, l2] (.int y :: .int x :: st) h = if y ≤ x then jv_ev call 82 61 [l0, l1, l2] st h else jv_ev call 82 10 [l0, l1, l2] st h := je_icmp D82_7 (by decide) rfl rfl
theorem D82_10 : decode (jt_code 82) 10 = .ok (.iload_n 2, 1) := by decide +kernel
theorem E82_10 {call : jv_F} {l0 l1 : Option Value} {x : Int32} {st : List Value} {h : jv_H} : jv_ev call 82 10 [l0, l1, some (.int x)] st h = jv_ev call 82 11 [l0, l1, some (.int x)] (.int x :: st) h := je_iload_n D82_10 rfl rfl
theorem D82_11 : decode (jt_code 82) 11 = .ok (.bipush 17, 2) := by decide +kernel
theorem E82_11 {call : jv_F} {l0 l1 l2 : Option Value}  {st : List Value} {h : jv_H} : jv_ev call 82 11 [l0, l1, l2] st h = jv_ev call 82 13 [l0, l1, l2] (.int (nI 17) :: st) h := je_bipush D82_11 rfl (by decide)
theorem D82_13 : decode (jt_code 82) 13 = .ok (.if_icmp .ge 48, 3) := by decide +kernel
theorem E82_13 {call : jv_F} {l0 l1 l2 : Option Value} {x y : Int32} {st : List Value} {h : jv_H} : jv_ev call 82 13 [l0, l1, l2] (.int y :: .int x :: st) h = if y ≤ x then jv_ev call 82 61 [l0, l1, l2] st h else jv_ev call 82 16 [l0, l1, l2] st h := je_icmp D82_13 (by decide) rfl rfl
theorem D82_16 : decode (jt_code 82) 16 = .ok (.aload_n 0, 1) := by decide +kernel
theorem E82_16 {call : jv_F} {l1 l2 : Option Value} {a : Nat} {st : List Value} {h : jv_H} : jv_ev call 82 16 [some (.ref a), l1, l2] st h = jv_ev call 82 17 [some (.ref a), l1, l2] (.ref a :: st) h := je_aload_n (r := some a) D82_16 rfl rfl
theorem D82_17 : decode (jt_code 82) 17 = .ok (.getfield 17, 3) := by decide +kernel
theorem E82_17 {call : jv_F} {l0 l1 l2 : Option Value} {a : Nat} {st : List Value} {h : jv_H} (hs : (jv_gf h a 3 1).isSome = true) : jv_ev call 82 17 [l0, l1, l2] (.ref a :: st) h = jv_ev call 82 20 [l0, l1, l2] ((jv_gf h a 3 1).getD .null :: st) h := by
  obtain ⟨v, hv⟩ := Option.isSome_iff_exists.mp hs
  rw [hv]
  exact je_get D82_17 rfl (by decide) hv
theorem D82_20 : decode (jt_code 82) 20 = .ok (.iload_n 2, 1) := by decide +kernel
theorem E82_20 {call : jv_F} {l0 l1 : Option Value} {x : Int32} {st : List Value} {h : jv_H} : jv_ev call 82 20 [l0, l1, some (.int x)] st h = jv_ev call 82 21 [l0, l1, some (.int x)] (.int x :: st) h := je_iload_n D82_20 rfl rfl
theorem D82_21 : decode (jt_code 82) 21 = .ok (.aaload, 1) := by decide +kernel
theorem E82_21 {call : jv_F} {l0 l1 l2 : Option Value} {a : Nat} {j : Int32} {C : String} {st : List Value} {h : jv_H} (hC : jv_kn h a = some C) (hs : (jv_al h a (.object C) j).isSome = true) : jv_ev call 82 21 [l0, l1, l2] (.int j :: .ref a :: st) h = jv_ev call 82 22 [l0, l1, l2] ((jv_al h a (.object C) j).getD .null :: st) h := by
  obtain ⟨v, hv⟩ := Option.isSome_iff_exists.mp hs
  rw [hv]
  exact je_aald D82_21 rfl hC hv
theorem D82_22 : decode (jt_code 82) 22 = .ok (.aload_n 1, 1) := by decide +kernel
theorem E82_22 {call : jv_F} {l0 l2 : Option Value} {a : Nat} {st : List Value} {h : jv_H} : jv_ev call 82 22 [l0, some (.ref a), l2] st h = jv_ev call 82 23 [l0, some (.ref a), l2] (.ref a :: st) h := je_aload_n (r := some a) D82_22 rfl rfl
theorem E82_22r {call : jv_F} {l0 l2 : Option Value} {r : Option Nat} {st : List Value} {h : jv_H} : jv_ev call 82 22 [l0, some (va_rf r), l2] st h = jv_ev call 82 23 [l0, some (va_rf r), l2] (va_rf r :: st) h := je_aload_n (r := r) D82_22 rfl rfl
theorem D82_23 : decode (jt_code 82) 23 = .ok (.if_acmp .ne 32, 3) := by decide +kernel
theorem E82_23 {call : jv_F} {l0 l1 l2 : Option Value} {x y : Option Nat} {st : List Value} {h : jv_H} : jv_ev call 82 23 [l0, l1, l2] (va_rf y :: va_rf x :: st) h = if x = y then jv_ev call 82 26 [l0, l1, l2] st h else jv_ev call 82 55 [l0, l1, l2] st h := je_acmp_ne D82_23 (by decide) rfl
theorem E82_23f {call : jv_F} {l0 l1 l2 : Option Value} {x : Option Nat} {y : Nat} {st : List Value} {h : jv_H} : jv_ev call 82 23 [l0, l1, l2] (.ref y :: va_rf x :: st) h = if x = some y then jv_ev call 82 26 [l0, l1, l2] st h else jv_ev call 82 55 [l0, l1, l2] st h := je_acmp_ne (y := some y) D82_23 (by decide) rfl
theorem E82_23g {call : jv_F} {l0 l1 l2 : Option Value} {x : Nat} {y : Option Nat} {st : List Value} {h : jv_H} : jv_ev call 82 23 [l0, l1, l2] (va_rf y :: .ref x :: st) h = if some x = y then jv_ev call 82 26 [l0, l1, l2] st h else jv_ev call 82 55 [l0, l1, l2] st h := je_acmp_ne (x := some x) D82_23 (by decide) rfl
theorem D82_26 : decode (jt_code 82) 26 = .ok (.aload_n 0, 1) := by decide +kernel
theorem E82_26 {call : jv_F} {l1 l2 : Option Value} {a : Nat} {st : List Value} {h : jv_H} : jv_ev call 82 26 [some (.ref a), l1, l2] st h = jv_ev call 82 27 [some (.ref a), l1, l2] (.ref a :: st) h := je_aload_n (r := some a) D82_26 rfl rfl
theorem D82_27 : decode (jt_code 82) 27 = .ok (.iload_n 2, 1) := by decide +kernel
theorem E82_27 {call : jv_F} {l0 l1 : Option Value} {x : Int32} {st : List Value} {h : jv_H} : jv_ev call 82 27 [l0, l1, some (.int x)] st h = jv_ev call 82 28 [l0, l1, some (.int x)] (.int x :: st) h := je_iload_n D82_27 rfl rfl
theorem D82_28 : decode (jt_code 82) 28 = .ok (.invokevirtual 51, 3) := by decide +kernel
theorem E82_28 {call : jv_F} {l0 l1 l2 : Option Value} {b : Nat} {v0 : Value}  {st : List Value} {h : jv_H} (hw : jv_wide st = true) (hcl : jv_cl h b = some 3) (hc : (call 83 [.ref b, v0] h).isSome = true) : jv_ev call 82 28 [l0, l1, l2] (v0 :: .ref b :: st) h = jv_ev call 82 31 [l0, l1, l2] ((((call 83 [.ref b, v0] h).getD (none, h)).1).toList ++ st) ((call 83 [.ref b, v0] h).getD (none, h)).2 := by
  obtain ⟨⟨r, h'⟩, hv⟩ := Option.isSome_iff_exists.mp hc
  rw [hv]
  exact je_virt (y := 83) (as := [v0]) D82_28 rfl (by decide) (by decide) rfl hcl hw hv
theorem D82_31 : decode (jt_code 82) 31 = .ok (.aload_n 0, 1) := by decide +kernel
theorem E82_31 {call : jv_F} {l1 l2 : Option Value} {a : Nat} {st : List Value} {h : jv_H} : jv_ev call 82 31 [some (.ref a), l1, l2] st h = jv_ev call 82 32 [some (.ref a), l1, l2] (.ref a :: st) h := je_aload_n (r := some a) D82_31 rfl rfl
theorem D82_32 : decode (jt_code 82) 32 = .ok (.aload_n 0, 1) := by decide +kernel
theorem E82_32 {call : jv_F} {l1 l2 : Option Value} {a : Nat} {st : List Value} {h : jv_H} : jv_ev call 82 32 [some (.ref a), l1, l2] st h = jv_ev call 82 33 [some (.ref a), l1, l2] (.ref a :: st) h := je_aload_n (r := some a) D82_32 rfl rfl
theorem D82_33 : decode (jt_code 82) 33 = .ok (.getfield 31, 3) := by decide +kernel
theorem E82_33 {call : jv_F} {l0 l1 l2 : Option Value} {a : Nat} {st : List Value} {h : jv_H} (hs : (jv_gf h a 3 5).isSome = true) : jv_ev call 82 33 [l0, l1, l2] (.ref a :: st) h = jv_ev call 82 36 [l0, l1, l2] ((jv_gf h a 3 5).getD .null :: st) h := by
  obtain ⟨v, hv⟩ := Option.isSome_iff_exists.mp hs
  rw [hv]
  exact je_get D82_33 rfl (by decide) hv
theorem D82_36 : decode (jt_code 82) 36 = .ok (.ifCond .eq 14, 3) := by decide +kernel
theorem E82_36 {call : jv_F} {l0 l1 l2 : Option Value} {x : Int32} {st : List Value} {h : jv_H} : jv_ev call 82 36 [l0, l1, l2] (.int x :: st) h = if x = 0 then jv_ev call 82 50 [l0, l1, l2] st h else jv_ev call 82 39 [l0, l1, l2] st h := je_ifc D82_36 (by decide) rfl rfl
theorem D82_39 : decode (jt_code 82) 39 = .ok (.aload_n 1, 1) := by decide +kernel
theorem E82_39 {call : jv_F} {l0 l2 : Option Value} {a : Nat} {st : List Value} {h : jv_H} : jv_ev call 82 39 [l0, some (.ref a), l2] st h = jv_ev call 82 40 [l0, some (.ref a), l2] (.ref a :: st) h := je_aload_n (r := some a) D82_39 rfl rfl
theorem E82_39r {call : jv_F} {l0 l2 : Option Value} {r : Option Nat} {st : List Value} {h : jv_H} : jv_ev call 82 39 [l0, some (va_rf r), l2] st h = jv_ev call 82 40 [l0, some (va_rf r), l2] (va_rf r :: st) h := je_aload_n (r := r) D82_39 rfl rfl
theorem D82_40 : decode (jt_code 82) 40 = .ok (.getfield 48, 3) := by decide +kernel
theorem E82_40 {call : jv_F} {l0 l1 l2 : Option Value} {a : Nat} {st : List Value} {h : jv_H} (hs : (jv_gf h a 1 5).isSome = true) : jv_ev call 82 40 [l0, l1, l2] (.ref a :: st) h = jv_ev call 82 43 [l0, l1, l2] ((jv_gf h a 1 5).getD .null :: st) h := by
  obtain ⟨v, hv⟩ := Option.isSome_iff_exists.mp hs
  rw [hv]
  exact je_get D82_40 rfl (by decide) hv
theorem D82_43 : decode (jt_code 82) 43 = .ok (.ifCond .ne 7, 3) := by decide +kernel
theorem E82_43 {call : jv_F} {l0 l1 l2 : Option Value} {x : Int32} {st : List Value} {h : jv_H} : jv_ev call 82 43 [l0, l1, l2] (.int x :: st) h = if ¬ x = 0 then jv_ev call 82 50 [l0, l1, l2] st h else jv_ev call 82 46 [l0, l1, l2] st h := je_ifc D82_43 (by decide) rfl rfl
theorem D82_46 : decode (jt_code 82) 46 = .ok (.iconst 1, 1) := by decide +kernel
theorem E82_46 {call : jv_F} {l0 l1 l2 : Option Value}  {st : List Value} {h : jv_H} : jv_ev call 82 46 [l0, l1, l2] st h = jv_ev call 82 47 [l0, l1, l2] (.int (nI 1) :: st) h := je_iconst D82_46 rfl (by decide)
theorem D82_47 : decode (jt_code 82) 47 = .ok (.goto 4, 3) := by decide +kernel
theorem E82_47 {call : jv_F} {l0 l1 l2 : Option Value}  {st : List Value} {h : jv_H} : jv_ev call 82 47 [l0, l1, l2] st h = jv_ev call 82 51 [l0, l1, l2] st h := je_goto D82_47 (by decide)
theorem D82_50 : decode (jt_code 82) 50 = .ok (.iconst 0, 1) := by decide +kernel
theorem E82_50 {call : jv_F} {l0 l1 l2 : Option Value}  {st : List Value} {h : jv_H} : jv_ev call 82 50 [l0, l1, l2] st h = jv_ev call 82 51 [l0, l1, l2] (.int (nI 0) :: st) h := je_iconst D82_50 rfl (by decide)
theorem D82_51 : decode (jt_code 82) 51 = .ok (.putfield 31, 3) := by decide +kernel
theorem E82_51 {call : jv_F} {l0 l1 l2 : Option Value} {a : Nat} {v : Value} {st : List Value} {h : jv_H} (hs : (jv_pf h a 3 5 v).isSome = true) : jv_ev call 82 51 [l0, l1, l2] (v :: .ref a :: st) h = jv_ev call 82 54 [l0, l1, l2] st ((jv_pf h a 3 5 v).getD h) := by
  obtain ⟨h', hv⟩ := Option.isSome_iff_exists.mp hs
  rw [hv]
  exact je_put D82_51 rfl (by decide) (by decide) hv
theorem D82_54 : decode (jt_code 82) 54 = .ok (.return_, 1) := by decide +kernel
theorem E82_54 {call : jv_F} {l0 l1 l2 : Option Value}  {h : jv_H} : jv_ev call 82 54 [l0, l1, l2] [] h = some (none, h) := je_ret D82_54 rfl
theorem D82_55 : decode (jt_code 82) 55 = .ok (.iinc 2 1, 3) := by decide +kernel
theorem E82_55 {call : jv_F} {l0 l1 : Option Value} {x : Int32} {st : List Value} {h : jv_H} (hk : ¬ jv_is2 (some l1) = true) : jv_ev call 82 55 [l0, l1, some (.int x)] st h = jv_ev call 82 58 [l0, l1, some (.int (x + (nI 1)))] st h := je_iinc D82_55 rfl rfl (v := x + (nI 1)) (by rfl) (by show jv_st1 _ 2 _ = _; simp only [jv_st1, jv_kill, List.getElem?_cons_succ, List.getElem?_cons_zero, hk, if_false]; rfl)
theorem D82_58 : decode (jt_code 82) 58 = .ok (.goto (-56), 3) := by decide +kernel
theorem E82_58 {call : jv_F} {l0 l1 l2 : Option Value}  {st : List Value} {h : jv_H} : jv_ev call 82 58 [l0, l1, l2] st h = jv_ev call 82 2 [l0, l1, l2] st h := je_goto D82_58 (by decide)
theorem D82_61 : decode (jt_code 82) 61 = .ok (.return_, 1) := by decide +kernel
theorem E82_61 {call : jv_F} {l0 l1 l2 : Option Value}  {h : jv_H} : jv_ev call 82 61 [l0, l1, l2] [] h = some (none, h) := je_ret D82_61 rfl
/-! method 83: DrumMachine$Drum.dropAsked -/
theorem N83 {d : Nat} {b : Nat} {a0 : Int32} {h : jv_H} : jv_run (d + 1) 83 [.ref b, .int a0] h = jv_ev (jv_run d) 83 0 [some (.ref b), some (.int a0), none] [] h := jv_run_eq (Nat.le_of_ble_eq_true rfl) rfl
theorem D83_0 : decode (jt_code 83) 0 = .ok (.iload_n 1, 1) := by decide +kernel
theorem E83_0 {call : jv_F} {l0 l2 : Option Value} {x : Int32} {st : List Value} {h : jv_H} : jv_ev call 83 0 [l0, some (.int x), l2] st h = jv_ev call 83 1 [l0, some (.int x), l2] (.int x :: st) h := je_iload_n D83_0 rfl rfl
theorem D83_1 : decode (jt_code 83) 1 = .ok (.istore_n 2, 1) := by decide +kernel
theorem E83_1 {call : jv_F} {l0 l1 l2 : Option Value} {x : Int32} {st : List Value} {h : jv_H} (hk : ¬ jv_is2 (some l1) = true) : jv_ev call 83 1 [l0, l1, l2] (.int x :: st) h = jv_ev call 83 2 [l0, l1, some (.int x)] st h := je_istore_n D83_1 rfl (Nat.le_of_ble_eq_true rfl) (by show jv_st1 _ 2 _ = _; simp only [jv_st1, jv_kill, List.getElem?_cons_succ, List.getElem?_cons_zero, hk, if_false]; rfl)
theorem D83_2 : decode (jt_code 83) 2 = .ok (.iload_n 2, 1) := by decide +kernel
theorem E83_2 {call : jv_F} {l0 l1 : Option Value} {x : Int32} {st : List Value} {h : jv_H} : jv_ev call 83 2 [l0, l1, some (.int x)] st h = jv_ev call 83 3 [l0, l1, some (.int x)] (.int x :: st) h := je_iload_n D83_2 rfl rfl
theorem D83_3 : decode (jt_code 83) 3 = .ok (.ifCond .lt 41, 3) := by decide +kernel
theorem E83_3 {call : jv_F} {l0 l1 l2 : Option Value} {x : Int32} {st : List Value} {h : jv_H} : jv_ev call 83 3 [l0, l1, l2] (.int x :: st) h = if x < 0 then jv_ev call 83 44 [l0, l1, l2] st h else jv_ev call 83 6 [l0, l1, l2] st h := je_ifc D83_3 (by decide) rfl rfl
theorem D83_6 : decode (jt_code 83) 6 = .ok (.iload_n 2, 1) := by decide +kernel
theorem E83_6 {call : jv_F} {l0 l1 : Option Value} {x : Int32} {st : List Value} {h : jv_H} : jv_ev call 83 6 [l0, l1, some (.int x)] st h = jv_ev call 83 7 [l0, l1, some (.int x)] (.int x :: st) h := je_iload_n D83_6 rfl rfl
theorem D83_7 : decode (jt_code 83) 7 = .ok (.iconst 1, 1) := by decide +kernel
theorem E83_7 {call : jv_F} {l0 l1 l2 : Option Value}  {st : List Value} {h : jv_H} : jv_ev call 83 7 [l0, l1, l2] st h = jv_ev call 83 8 [l0, l1, l2] (.int (nI 1) :: st) h := je_iconst D83_7 rfl (by decide)
theorem D83_8 : decode (jt_code 83) 8 = .ok (.iadd, 1) := by decide +kernel
theorem E83_8 {call : jv_F} {l0 l1 l2 : Option Value} {x y : Int32} {st : List Value} {h : jv_H} : jv_ev call 83 8 [l0, l1, l2] (.int y :: .int x :: st) h = jv_ev call 83 9 [l0, l1, l2] (.int (x + y) :: st) h := je_b2 (f := fun x y => x + y) D83_8 rfl (fun _ => rfl)
theorem D83_9 : decode (jt_code 83) 9 = .ok (.aload_n 0, 1) := by decide +kernel
theorem E83_9 {call : jv_F} {l1 l2 : Option Value} {a : Nat} {st : List Value} {h : jv_H} : jv_ev call 83 9 [some (.ref a), l1, l2] st h = jv_ev call 83 10 [some (.ref a), l1, l2] (.ref a :: st) h := je_aload_n (r := some a) D83_9 rfl rfl
theorem D83_10 : decode (jt_code 83) 10 = .ok (.getfield 20, 3) := by decide +kernel
theorem E83_10 {call : jv_F} {l0 l1 l2 : Option Value} {a : Nat} {st : List Value} {h : jv_H} (hs : (jv_gf h a 3 2).isSome = true) : jv_ev call 83 10 [l0, l1, l2] (.ref a :: st) h = jv_ev call 83 13 [l0, l1, l2] ((jv_gf h a 3 2).getD .null :: st) h := by
  obtain ⟨v, hv⟩ := Option.isSome_iff_exists.mp hs
  rw [hv]
  exact je_get D83_10 rfl (by decide) hv
theorem D83_13 : decode (jt_code 83) 13 = .ok (.if_icmp .ge 31, 3) := by decide +kernel
theorem E83_13 {call : jv_F} {l0 l1 l2 : Option Value} {x y : Int32} {st : List Value} {h : jv_H} : jv_ev call 83 13 [l0, l1, l2] (.int y :: .int x :: st) h = if y ≤ x then jv_ev call 83 44 [l0, l1, l2] st h else jv_ev call 83 16 [l0, l1, l2] st h := je_icmp D83_13 (by decide) rfl rfl
theorem D83_16 : decode (jt_code 83) 16 = .ok (.iload_n 2, 1) := by decide +kernel
theorem E83_16 {call : jv_F} {l0 l1 : Option Value} {x : Int32} {st : List Value} {h : jv_H} : jv_ev call 83 16 [l0, l1, some (.int x)] st h = jv_ev call 83 17 [l0, l1, some (.int x)] (.int x :: st) h := je_iload_n D83_16 rfl rfl
theorem D83_17 : decode (jt_code 83) 17 = .ok (.iconst 1, 1) := by decide +kernel
theorem E83_17 {call : jv_F} {l0 l1 l2 : Option Value}  {st : List Value} {h : jv_H} : jv_ev call 83 17 [l0, l1, l2] st h = jv_ev call 83 18 [l0, l1, l2] (.int (nI 1) :: st) h := je_iconst D83_17 rfl (by decide)
theorem D83_18 : decode (jt_code 83) 18 = .ok (.iadd, 1) := by decide +kernel
theorem E83_18 {call : jv_F} {l0 l1 l2 : Option Value} {x y : Int32} {st : List Value} {h : jv_H} : jv_ev call 83 18 [l0, l1, l2] (.int y :: .int x :: st) h = jv_ev call 83 19 [l0, l1, l2] (.int (x + y) :: st) h := je_b2 (f := fun x y => x + y) D83_18 rfl (fun _ => rfl)
theorem D83_19 : decode (jt_code 83) 19 = .ok (.bipush 17, 2) := by decide +kernel
theorem E83_19 {call : jv_F} {l0 l1 l2 : Option Value}  {st : List Value} {h : jv_H} : jv_ev call 83 19 [l0, l1, l2] st h = jv_ev call 83 21 [l0, l1, l2] (.int (nI 17) :: st) h := je_bipush D83_19 rfl (by decide)
theorem D83_21 : decode (jt_code 83) 21 = .ok (.if_icmp .ge 23, 3) := by decide +kernel
theorem E83_21 {call : jv_F} {l0 l1 l2 : Option Value} {x y : Int32} {st : List Value} {h : jv_H} : jv_ev call 83 21 [l0, l1, l2] (.int y :: .int x :: st) h = if y ≤ x then jv_ev call 83 44 [l0, l1, l2] st h else jv_ev call 83 24 [l0, l1, l2] st h := je_icmp D83_21 (by decide) rfl rfl
theorem D83_24 : decode (jt_code 83) 24 = .ok (.aload_n 0, 1) := by decide +kernel
theorem E83_24 {call : jv_F} {l1 l2 : Option Value} {a : Nat} {st : List Value} {h : jv_H} : jv_ev call 83 24 [some (.ref a), l1, l2] st h = jv_ev call 83 25 [some (.ref a), l1, l2] (.ref a :: st) h := je_aload_n (r := some a) D83_24 rfl rfl
theorem D83_25 : decode (jt_code 83) 25 = .ok (.getfield 17, 3) := by decide +kernel
theorem E83_25 {call : jv_F} {l0 l1 l2 : Option Value} {a : Nat} {st : List Value} {h : jv_H} (hs : (jv_gf h a 3 1).isSome = true) : jv_ev call 83 25 [l0, l1, l2] (.ref a :: st) h = jv_ev call 83 28 [l0, l1, l2] ((jv_gf h a 3 1).getD .null :: st) h := by
  obtain ⟨v, hv⟩ := Option.isSome_iff_exists.mp hs
  rw [hv]
  exact je_get D83_25 rfl (by decide) hv
theorem D83_28 : decode (jt_code 83) 28 = .ok (.iload_n 2, 1) := by decide +kernel
theorem E83_28 {call : jv_F} {l0 l1 : Option Value} {x : Int32} {st : List Value} {h : jv_H} : jv_ev call 83 28 [l0, l1, some (.int x)] st h = jv_ev call 83 29 [l0, l1, some (.int x)] (.int x :: st) h := je_iload_n D83_28 rfl rfl
theorem D83_29 : decode (jt_code 83) 29 = .ok (.aload_n 0, 1) := by decide +kernel
theorem E83_29 {call : jv_F} {l1 l2 : Option Value} {a : Nat} {st : List Value} {h : jv_H} : jv_ev call 83 29 [some (.ref a), l1, l2] st h = jv_ev call 83 30 [some (.ref a), l1, l2] (.ref a :: st) h := je_aload_n (r := some a) D83_29 rfl rfl
theorem D83_30 : decode (jt_code 83) 30 = .ok (.getfield 17, 3) := by decide +kernel
theorem E83_30 {call : jv_F} {l0 l1 l2 : Option Value} {a : Nat} {st : List Value} {h : jv_H} (hs : (jv_gf h a 3 1).isSome = true) : jv_ev call 83 30 [l0, l1, l2] (.ref a :: st) h = jv_ev call 83 33 [l0, l1, l2] ((jv_gf h a 3 1).getD .null :: st) h := by
  obtain ⟨v, hv⟩ := Option.isSome_iff_exists.mp hs
  rw [hv]
  exact je_get D83_30 rfl (by decide) hv
theorem D83_33 : decode (jt_code 83) 33 = .ok (.iload_n 2, 1) := by decide +kernel
theorem E83_33 {call : jv_F} {l0 l1 : Option Value} {x : Int32} {st : List Value} {h : jv_H} : jv_ev call 83 33 [l0, l1, some (.int x)] st h = jv_ev call 83 34 [l0, l1, some (.int x)] (.int x :: st) h := je_iload_n D83_33 rfl rfl
theorem D83_34 : decode (jt_code 83) 34 = .ok (.iconst 1, 1) := by decide +kernel
theorem E83_34 {call : jv_F} {l0 l1 l2 : Option Value}  {st : List Value} {h : jv_H} : jv_ev call 83 34 [l0, l1, l2] st h = jv_ev call 83 35 [l0, l1, l2] (.int (nI 1) :: st) h := je_iconst D83_34 rfl (by decide)
theorem D83_35 : decode (jt_code 83) 35 = .ok (.iadd, 1) := by decide +kernel
theorem E83_35 {call : jv_F} {l0 l1 l2 : Option Value} {x y : Int32} {st : List Value} {h : jv_H} : jv_ev call 83 35 [l0, l1, l2] (.int y :: .int x :: st) h = jv_ev call 83 36 [l0, l1, l2] (.int (x + y) :: st) h := je_b2 (f := fun x y => x + y) D83_35 rfl (fun _ => rfl)
theorem D83_36 : decode (jt_code 83) 36 = .ok (.aaload, 1) := by decide +kernel
theorem E83_36 {call : jv_F} {l0 l1 l2 : Option Value} {a : Nat} {j : Int32} {C : String} {st : List Value} {h : jv_H} (hC : jv_kn h a = some C) (hs : (jv_al h a (.object C) j).isSome = true) : jv_ev call 83 36 [l0, l1, l2] (.int j :: .ref a :: st) h = jv_ev call 83 37 [l0, l1, l2] ((jv_al h a (.object C) j).getD .null :: st) h := by
  obtain ⟨v, hv⟩ := Option.isSome_iff_exists.mp hs
  rw [hv]
  exact je_aald D83_36 rfl hC hv
theorem D83_37 : decode (jt_code 83) 37 = .ok (.aastore, 1) := by decide +kernel
theorem E83_37 {call : jv_F} {l0 l1 l2 : Option Value} {a : Nat} {j : Int32} {C : String} {v : Value} {st : List Value} {h : jv_H} (hC : jv_kn h a = some C) (hA : jv_isA h C v = true) (hs : (jv_as h a (.object C) j v).isSome = true) : jv_ev call 83 37 [l0, l1, l2] (v :: .int j :: .ref a :: st) h = jv_ev call 83 38 [l0, l1, l2] st ((jv_as h a (.object C) j v).getD h) := by
  obtain ⟨h', hv⟩ := Option.isSome_iff_exists.mp hs
  rw [hv]
  exact je_aast D83_37 rfl hC hA hv
theorem D83_38 : decode (jt_code 83) 38 = .ok (.iinc 2 1, 3) := by decide +kernel
theorem E83_38 {call : jv_F} {l0 l1 : Option Value} {x : Int32} {st : List Value} {h : jv_H} (hk : ¬ jv_is2 (some l1) = true) : jv_ev call 83 38 [l0, l1, some (.int x)] st h = jv_ev call 83 41 [l0, l1, some (.int (x + (nI 1)))] st h := je_iinc D83_38 rfl rfl (v := x + (nI 1)) (by rfl) (by show jv_st1 _ 2 _ = _; simp only [jv_st1, jv_kill, List.getElem?_cons_succ, List.getElem?_cons_zero, hk, if_false]; rfl)
theorem D83_41 : decode (jt_code 83) 41 = .ok (.goto (-39), 3) := by decide +kernel
theorem E83_41 {call : jv_F} {l0 l1 l2 : Option Value}  {st : List Value} {h : jv_H} : jv_ev call 83 41 [l0, l1, l2] st h = jv_ev call 83 2 [l0, l1, l2] st h := je_goto D83_41 (by decide)
theorem D83_44 : decode (jt_code 83) 44 = .ok (.aload_n 0, 1) := by decide +kernel
theorem E83_44 {call : jv_F} {l1 l2 : Option Value} {a : Nat} {st : List Value} {h : jv_H} : jv_ev call 83 44 [some (.ref a), l1, l2] st h = jv_ev call 83 45 [some (.ref a), l1, l2] (.ref a :: st) h := je_aload_n (r := some a) D83_44 rfl rfl
theorem D83_45 : decode (jt_code 83) 45 = .ok (.dup, 1) := by decide +kernel
theorem E83_45 {call : jv_F} {l0 l1 l2 : Option Value} {a : Nat} {st : List Value} {h : jv_H} : jv_ev call 83 45 [l0, l1, l2] (.ref a :: st) h = jv_ev call 83 46 [l0, l1, l2] (.ref a :: .ref a :: st) h := je_dup D83_45 rfl rfl
theorem E83_45i {call : jv_F} {l0 l1 l2 : Option Value} {x : Int32} {st : List Value} {h : jv_H} : jv_ev call 83 45 [l0, l1, l2] (.int x :: st) h = jv_ev call 83 46 [l0, l1, l2] (.int x :: .int x :: st) h := je_dup D83_45 rfl rfl
theorem D83_46 : decode (jt_code 83) 46 = .ok (.getfield 20, 3) := by decide +kernel
theorem E83_46 {call : jv_F} {l0 l1 l2 : Option Value} {a : Nat} {st : List Value} {h : jv_H} (hs : (jv_gf h a 3 2).isSome = true) : jv_ev call 83 46 [l0, l1, l2] (.ref a :: st) h = jv_ev call 83 49 [l0, l1, l2] ((jv_gf h a 3 2).getD .null :: st) h := by
  obtain ⟨v, hv⟩ := Option.isSome_iff_exists.mp hs
  rw [hv]
  exact je_get D83_46 rfl (by decide) hv
theorem D83_49 : decode (jt_code 83) 49 = .ok (.iconst 1, 1) := by decide +kernel
theorem E83_49 {call : jv_F} {l0 l1 l2 : Option Value}  {st : List Value} {h : jv_H} : jv_ev call 83 49 [l0, l1, l2] st h = jv_ev call 83 50 [l0, l1, l2] (.int (nI 1) :: st) h := je_iconst D83_49 rfl (by decide)
theorem D83_50 : decode (jt_code 83) 50 = .ok (.isub, 1) := by decide +kernel
theorem E83_50 {call : jv_F} {l0 l1 l2 : Option Value} {x y : Int32} {st : List Value} {h : jv_H} : jv_ev call 83 50 [l0, l1, l2] (.int y :: .int x :: st) h = jv_ev call 83 51 [l0, l1, l2] (.int (x - y) :: st) h := je_b2 (f := fun x y => x - y) D83_50 rfl (fun _ => rfl)
theorem D83_51 : decode (jt_code 83) 51 = .ok (.putfield 20, 3) := by decide +kernel
theorem E83_51 {call : jv_F} {l0 l1 l2 : Option Value} {a : Nat} {v : Value} {st : List Value} {h : jv_H} (hs : (jv_pf h a 3 2 v).isSome = true) : jv_ev call 83 51 [l0, l1, l2] (v :: .ref a :: st) h = jv_ev call 83 54 [l0, l1, l2] st ((jv_pf h a 3 2 v).getD h) := by
  obtain ⟨h', hv⟩ := Option.isSome_iff_exists.mp hs
  rw [hv]
  exact je_put D83_51 rfl (by decide) (by decide) hv
theorem D83_54 : decode (jt_code 83) 54 = .ok (.return_, 1) := by decide +kernel
theorem E83_54 {call : jv_F} {l0 l1 l2 : Option Value}  {h : jv_H} : jv_ev call 83 54 [l0, l1, l2] [] h = some (none, h) := je_ret D83_54 rfl
/-! method 84: DrumMachine$Drum.begin -/
theorem N84 {d : Nat} {b : Nat} {a0 : Int32} {h : jv_H} : jv_run (d + 1) 84 [.ref b, .int a0] h = jv_ev (jv_run d) 84 0 [some (.ref b), some (.int a0), none, none] [] h := jv_run_eq (Nat.le_of_ble_eq_true rfl) rfl
theorem D84_0 : decode (jt_code 84) 0 = .ok (.aload_n 0, 1) := by decide +kernel
theorem E84_0 {call : jv_F} {l1 l2 l3 : Option Value} {a : Nat} {st : List Value} {h : jv_H} : jv_ev call 84 0 [some (.ref a), l1, l2, l3] st h = jv_ev call 84 1 [some (.ref a), l1, l2, l3] (.ref a :: st) h := je_aload_n (r := some a) D84_0 rfl rfl
theorem D84_1 : decode (jt_code 84) 1 = .ok (.getfield 17, 3) := by decide +kernel
theorem E84_1 {call : jv_F} {l0 l1 l2 l3 : Option Value} {a : Nat} {st : List Value} {h : jv_H} (hs : (jv_gf h a 3 1).isSome = true) : jv_ev call 84 1 [l0, l1, l2, l3] (.ref a :: st) h = jv_ev call 84 4 [l0, l1, l2, l3] ((jv_gf h a 3 1).getD .null :: st) h := by
  obtain ⟨v, hv⟩ := Option.isSome_iff_exists.mp hs
  rw [hv]
  exact je_get D84_1 rfl (by decide) hv
theorem D84_4 : decode (jt_code 84) 4 = .ok (.iconst 0, 1) := by decide +kernel
theorem E84_4 {call : jv_F} {l0 l1 l2 l3 : Option Value}  {st : List Value} {h : jv_H} : jv_ev call 84 4 [l0, l1, l2, l3] st h = jv_ev call 84 5 [l0, l1, l2, l3] (.int (nI 0) :: st) h := je_iconst D84_4 rfl (by decide)
theorem D84_5 : decode (jt_code 84) 5 = .ok (.aaload, 1) := by decide +kernel
theorem E84_5 {call : jv_F} {l0 l1 l2 l3 : Option Value} {a : Nat} {j : Int32} {C : String} {st : List Value} {h : jv_H} (hC : jv_kn h a = some C) (hs : (jv_al h a (.object C) j).isSome = true) : jv_ev call 84 5 [l0, l1, l2, l3] (.int j :: .ref a :: st) h = jv_ev call 84 6 [l0, l1, l2, l3] ((jv_al h a (.object C) j).getD .null :: st) h := by
  obtain ⟨v, hv⟩ := Option.isSome_iff_exists.mp hs
  rw [hv]
  exact je_aald D84_5 rfl hC hv
theorem D84_6 : decode (jt_code 84) 6 = .ok (.astore_n 2, 1) := by decide +kernel
theorem E84_6 {call : jv_F} {l0 l1 l2 l3 : Option Value} {a : Nat} {st : List Value} {h : jv_H} (hk : ¬ jv_is2 (some l1) = true) : jv_ev call 84 6 [l0, l1, l2, l3] (.ref a :: st) h = jv_ev call 84 7 [l0, l1, some (.ref a), l3] st h := je_astore_n (r := some a) D84_6 rfl (Nat.le_of_ble_eq_true rfl) (by show jv_st1 _ 2 _ = _; simp only [jv_st1, jv_kill, List.getElem?_cons_succ, List.getElem?_cons_zero, hk, if_false]; rfl)
theorem E84_6r {call : jv_F} {l0 l1 l2 l3 : Option Value} {r : Option Nat} {st : List Value} {h : jv_H} (hk : ¬ jv_is2 (some l1) = true) : jv_ev call 84 6 [l0, l1, l2, l3] (va_rf r :: st) h = jv_ev call 84 7 [l0, l1, some (va_rf r), l3] st h := je_astore_n (r := r) D84_6 rfl (Nat.le_of_ble_eq_true rfl) (by show jv_st1 _ 2 _ = _; simp only [jv_st1, jv_kill, List.getElem?_cons_succ, List.getElem?_cons_zero, hk, if_false]; rfl)
theorem D84_7 : decode (jt_code 84) 7 = .ok (.aload_n 0, 1) := by decide +kernel
theorem E84_7 {call : jv_F} {l1 l2 l3 : Option Value} {a : Nat} {st : List Value} {h : jv_H} : jv_ev call 84 7 [some (.ref a), l1, l2, l3] st h = jv_ev call 84 8 [some (.ref a), l1, l2, l3] (.ref a :: st) h := je_aload_n (r := some a) D84_7 rfl rfl
theorem D84_8 : decode (jt_code 84) 8 = .ok (.getfield 24, 3) := by decide +kernel
theorem E84_8 {call : jv_F} {l0 l1 l2 l3 : Option Value} {a : Nat} {st : List Value} {h : jv_H} (hs : (jv_gf h a 3 3).isSome = true) : jv_ev call 84 8 [l0, l1, l2, l3] (.ref a :: st) h = jv_ev call 84 11 [l0, l1, l2, l3] ((jv_gf h a 3 3).getD .null :: st) h := by
  obtain ⟨v, hv⟩ := Option.isSome_iff_exists.mp hs
  rw [hv]
  exact je_get D84_8 rfl (by decide) hv
theorem D84_11 : decode (jt_code 84) 11 = .ok (.ifnonnull 14, 3) := by decide +kernel
theorem E84_11r {call : jv_F} {l0 l1 l2 l3 : Option Value} {x : Option Nat} {st : List Value} {h : jv_H} : jv_ev call 84 11 [l0, l1, l2, l3] (va_rf x :: st) h = if x = none then jv_ev call 84 14 [l0, l1, l2, l3] st h else jv_ev call 84 25 [l0, l1, l2, l3] st h := je_ifnonnull D84_11 (by decide) rfl
theorem E84_11 {call : jv_F} {l0 l1 l2 l3 : Option Value} {x : Nat} {st : List Value} {h : jv_H} : jv_ev call 84 11 [l0, l1, l2, l3] (.ref x :: st) h = jv_ev call 84 25 [l0, l1, l2, l3] st h := (je_ifnonnull (x := some x) (t := 25) D84_11 (by decide) rfl).trans (if_neg (by simp))
theorem D84_14 : decode (jt_code 84) 14 = .ok (.aload_n 0, 1) := by decide +kernel
theorem E84_14 {call : jv_F} {l1 l2 l3 : Option Value} {a : Nat} {st : List Value} {h : jv_H} : jv_ev call 84 14 [some (.ref a), l1, l2, l3] st h = jv_ev call 84 15 [some (.ref a), l1, l2, l3] (.ref a :: st) h := je_aload_n (r := some a) D84_14 rfl rfl
theorem D84_15 : decode (jt_code 84) 15 = .ok (.getfield 20, 3) := by decide +kernel
theorem E84_15 {call : jv_F} {l0 l1 l2 l3 : Option Value} {a : Nat} {st : List Value} {h : jv_H} (hs : (jv_gf h a 3 2).isSome = true) : jv_ev call 84 15 [l0, l1, l2, l3] (.ref a :: st) h = jv_ev call 84 18 [l0, l1, l2, l3] ((jv_gf h a 3 2).getD .null :: st) h := by
  obtain ⟨v, hv⟩ := Option.isSome_iff_exists.mp hs
  rw [hv]
  exact je_get D84_15 rfl (by decide) hv
theorem D84_18 : decode (jt_code 84) 18 = .ok (.ifCond .eq 7, 3) := by decide +kernel
theorem E84_18 {call : jv_F} {l0 l1 l2 l3 : Option Value} {x : Int32} {st : List Value} {h : jv_H} : jv_ev call 84 18 [l0, l1, l2, l3] (.int x :: st) h = if x = 0 then jv_ev call 84 25 [l0, l1, l2, l3] st h else jv_ev call 84 21 [l0, l1, l2, l3] st h := je_ifc D84_18 (by decide) rfl rfl
theorem D84_21 : decode (jt_code 84) 21 = .ok (.aload_n 2, 1) := by decide +kernel
theorem E84_21 {call : jv_F} {l0 l1 l3 : Option Value} {a : Nat} {st : List Value} {h : jv_H} : jv_ev call 84 21 [l0, l1, some (.ref a), l3] st h = jv_ev call 84 22 [l0, l1, some (.ref a), l3] (.ref a :: st) h := je_aload_n (r := some a) D84_21 rfl rfl
theorem E84_21r {call : jv_F} {l0 l1 l3 : Option Value} {r : Option Nat} {st : List Value} {h : jv_H} : jv_ev call 84 21 [l0, l1, some (va_rf r), l3] st h = jv_ev call 84 22 [l0, l1, some (va_rf r), l3] (va_rf r :: st) h := je_aload_n (r := r) D84_21 rfl rfl
theorem D84_22 : decode (jt_code 84) 22 = .ok (.ifnonnull 4, 3) := by decide +kernel
theorem E84_22r {call : jv_F} {l0 l1 l2 l3 : Option Value} {x : Option Nat} {st : List Value} {h : jv_H} : jv_ev call 84 22 [l0, l1, l2, l3] (va_rf x :: st) h = if x = none then jv_ev call 84 25 [l0, l1, l2, l3] st h else jv_ev call 84 26 [l0, l1, l2, l3] st h := je_ifnonnull D84_22 (by decide) rfl
theorem E84_22 {call : jv_F} {l0 l1 l2 l3 : Option Value} {x : Nat} {st : List Value} {h : jv_H} : jv_ev call 84 22 [l0, l1, l2, l3] (.ref x :: st) h = jv_ev call 84 26 [l0, l1, l2, l3] st h := (je_ifnonnull (x := some x) (t := 26) D84_22 (by decide) rfl).trans (if_neg (by simp))
theorem D84_25 : decode (jt_code 84) 25 = .ok (.return_, 1) := by decide +kernel
theorem E84_25 {call : jv_F} {l0 l1 l2 l3 : Option Value}  {h : jv_H} : jv_ev call 84 25 [l0, l1, l2, l3] [] h = some (none, h) := je_ret D84_25 rfl
theorem D84_26 : decode (jt_code 84) 26 = .ok (.aload_n 2, 1) := by decide +kernel
theorem E84_26 {call : jv_F} {l0 l1 l3 : Option Value} {a : Nat} {st : List Value} {h : jv_H} : jv_ev call 84 26 [l0, l1, some (.ref a), l3] st h = jv_ev call 84 27 [l0, l1, some (.ref a), l3] (.ref a :: st) h := je_aload_n (r := some a) D84_26 rfl rfl
theorem E84_26r {call : jv_F} {l0 l1 l3 : Option Value} {r : Option Nat} {st : List Value} {h : jv_H} : jv_ev call 84 26 [l0, l1, some (va_rf r), l3] st h = jv_ev call 84 27 [l0, l1, some (va_rf r), l3] (va_rf r :: st) h := je_aload_n (r := r) D84_26 rfl rfl
theorem D84_27 : decode (jt_code 84) 27 = .ok (.getfield 48, 3) := by decide +kernel
theorem E84_27 {call : jv_F} {l0 l1 l2 l3 : Option Value} {a : Nat} {st : List Value} {h : jv_H} (hs : (jv_gf h a 1 5).isSome = true) : jv_ev call 84 27 [l0, l1, l2, l3] (.ref a :: st) h = jv_ev call 84 30 [l0, l1, l2, l3] ((jv_gf h a 1 5).getD .null :: st) h := by
  obtain ⟨v, hv⟩ := Option.isSome_iff_exists.mp hs
  rw [hv]
  exact je_get D84_27 rfl (by decide) hv
theorem D84_30 : decode (jt_code 84) 30 = .ok (.ifCond .eq 11, 3) := by decide +kernel
theorem E84_30 {call : jv_F} {l0 l1 l2 l3 : Option Value} {x : Int32} {st : List Value} {h : jv_H} : jv_ev call 84 30 [l0, l1, l2, l3] (.int x :: st) h = if x = 0 then jv_ev call 84 41 [l0, l1, l2, l3] st h else jv_ev call 84 33 [l0, l1, l2, l3] st h := je_ifc D84_30 (by decide) rfl rfl
theorem D84_33 : decode (jt_code 84) 33 = .ok (.aload_n 0, 1) := by decide +kernel
theorem E84_33 {call : jv_F} {l1 l2 l3 : Option Value} {a : Nat} {st : List Value} {h : jv_H} : jv_ev call 84 33 [some (.ref a), l1, l2, l3] st h = jv_ev call 84 34 [some (.ref a), l1, l2, l3] (.ref a :: st) h := je_aload_n (r := some a) D84_33 rfl rfl
theorem D84_34 : decode (jt_code 84) 34 = .ok (.iload_n 1, 1) := by decide +kernel
theorem E84_34 {call : jv_F} {l0 l2 l3 : Option Value} {x : Int32} {st : List Value} {h : jv_H} : jv_ev call 84 34 [l0, some (.int x), l2, l3] st h = jv_ev call 84 35 [l0, some (.int x), l2, l3] (.int x :: st) h := je_iload_n D84_34 rfl rfl
theorem D84_35 : decode (jt_code 84) 35 = .ok (.invokevirtual 55, 3) := by decide +kernel
theorem E84_35 {call : jv_F} {l0 l1 l2 l3 : Option Value} {b : Nat} {v0 : Value}  {st : List Value} {h : jv_H} (hw : jv_wide st = true) (hcl : jv_cl h b = some 3) (hc : (call 86 [.ref b, v0] h).isSome = true) : jv_ev call 84 35 [l0, l1, l2, l3] (v0 :: .ref b :: st) h = jv_ev call 84 38 [l0, l1, l2, l3] ((((call 86 [.ref b, v0] h).getD (none, h)).1).toList ++ st) ((call 86 [.ref b, v0] h).getD (none, h)).2 := by
  obtain ⟨⟨r, h'⟩, hv⟩ := Option.isSome_iff_exists.mp hc
  rw [hv]
  exact je_virt (y := 86) (as := [v0]) D84_35 rfl (by decide) (by decide) rfl hcl hw hv
theorem D84_38 : decode (jt_code 84) 38 = .ok (.goto 7, 3) := by decide +kernel
theorem E84_38 {call : jv_F} {l0 l1 l2 l3 : Option Value}  {st : List Value} {h : jv_H} : jv_ev call 84 38 [l0, l1, l2, l3] st h = jv_ev call 84 45 [l0, l1, l2, l3] st h := je_goto D84_38 (by decide)
theorem D84_41 : decode (jt_code 84) 41 = .ok (.aload_n 2, 1) := by decide +kernel
theorem E84_41 {call : jv_F} {l0 l1 l3 : Option Value} {a : Nat} {st : List Value} {h : jv_H} : jv_ev call 84 41 [l0, l1, some (.ref a), l3] st h = jv_ev call 84 42 [l0, l1, some (.ref a), l3] (.ref a :: st) h := je_aload_n (r := some a) D84_41 rfl rfl
theorem E84_41r {call : jv_F} {l0 l1 l3 : Option Value} {r : Option Nat} {st : List Value} {h : jv_H} : jv_ev call 84 41 [l0, l1, some (va_rf r), l3] st h = jv_ev call 84 42 [l0, l1, some (va_rf r), l3] (va_rf r :: st) h := je_aload_n (r := r) D84_41 rfl rfl
theorem D84_42 : decode (jt_code 84) 42 = .ok (.getfield 45, 3) := by decide +kernel
theorem E84_42 {call : jv_F} {l0 l1 l2 l3 : Option Value} {a : Nat} {st : List Value} {h : jv_H} (hs : (jv_gf h a 1 3).isSome = true) : jv_ev call 84 42 [l0, l1, l2, l3] (.ref a :: st) h = jv_ev call 84 45 [l0, l1, l2, l3] ((jv_gf h a 1 3).getD .null :: st) h := by
  obtain ⟨v, hv⟩ := Option.isSome_iff_exists.mp hs
  rw [hv]
  exact je_get D84_42 rfl (by decide) hv
theorem D84_45 : decode (jt_code 84) 45 = .ok (.istore_n 3, 1) := by decide +kernel
theorem E84_45 {call : jv_F} {l0 l1 l2 l3 : Option Value} {x : Int32} {st : List Value} {h : jv_H} (hk : ¬ jv_is2 (some l2) = true) : jv_ev call 84 45 [l0, l1, l2, l3] (.int x :: st) h = jv_ev call 84 46 [l0, l1, l2, some (.int x)] st h := je_istore_n D84_45 rfl (Nat.le_of_ble_eq_true rfl) (by show jv_st1 _ 3 _ = _; simp only [jv_st1, jv_kill, List.getElem?_cons_succ, List.getElem?_cons_zero, hk, if_false]; rfl)
theorem D84_46 : decode (jt_code 84) 46 = .ok (.iload_n 3, 1) := by decide +kernel
theorem E84_46 {call : jv_F} {l0 l1 l2 : Option Value} {x : Int32} {st : List Value} {h : jv_H} : jv_ev call 84 46 [l0, l1, l2, some (.int x)] st h = jv_ev call 84 47 [l0, l1, l2, some (.int x)] (.int x :: st) h := je_iload_n D84_46 rfl rfl
theorem D84_47 : decode (jt_code 84) 47 = .ok (.iconst (-1), 1) := by decide +kernel
theorem E84_47 {call : jv_F} {l0 l1 l2 l3 : Option Value}  {st : List Value} {h : jv_H} : jv_ev call 84 47 [l0, l1, l2, l3] st h = jv_ev call 84 48 [l0, l1, l2, l3] (.int (-1) :: st) h := je_iconst D84_47 rfl (by decide)
theorem D84_48 : decode (jt_code 84) 48 = .ok (.if_icmp .ne 4, 3) := by decide +kernel
theorem E84_48 {call : jv_F} {l0 l1 l2 l3 : Option Value} {x y : Int32} {st : List Value} {h : jv_H} : jv_ev call 84 48 [l0, l1, l2, l3] (.int y :: .int x :: st) h = if ¬ x = y then jv_ev call 84 52 [l0, l1, l2, l3] st h else jv_ev call 84 51 [l0, l1, l2, l3] st h := je_icmp D84_48 (by decide) rfl rfl
theorem D84_51 : decode (jt_code 84) 51 = .ok (.return_, 1) := by decide +kernel
theorem E84_51 {call : jv_F} {l0 l1 l2 l3 : Option Value}  {h : jv_H} : jv_ev call 84 51 [l0, l1, l2, l3] [] h = some (none, h) := je_ret D84_51 rfl
theorem D84_52 : decode (jt_code 84) 52 = .ok (.aload_n 2, 1) := by decide +kernel
theorem E84_52 {call : jv_F} {l0 l1 l3 : Option Value} {a : Nat} {st : List Value} {h : jv_H} : jv_ev call 84 52 [l0, l1, some (.ref a), l3] st h = jv_ev call 84 53 [l0, l1, some (.ref a), l3] (.ref a :: st) h := je_aload_n (r := some a) D84_52 rfl rfl
theorem E84_52r {call : jv_F} {l0 l1 l3 : Option Value} {r : Option Nat} {st : List Value} {h : jv_H} : jv_ev call 84 52 [l0, l1, some (va_rf r), l3] st h = jv_ev call 84 53 [l0, l1, some (va_rf r), l3] (va_rf r :: st) h := je_aload_n (r := r) D84_52 rfl rfl
theorem D84_53 : decode (jt_code 84) 53 = .ok (.getfield 48, 3) := by decide +kernel
theorem E84_53 {call : jv_F} {l0 l1 l2 l3 : Option Value} {a : Nat} {st : List Value} {h : jv_H} (hs : (jv_gf h a 1 5).isSome = true) : jv_ev call 84 53 [l0, l1, l2, l3] (.ref a :: st) h = jv_ev call 84 56 [l0, l1, l2, l3] ((jv_gf h a 1 5).getD .null :: st) h := by
  obtain ⟨v, hv⟩ := Option.isSome_iff_exists.mp hs
  rw [hv]
  exact je_get D84_53 rfl (by decide) hv
theorem D84_56 : decode (jt_code 84) 56 = .ok (.ifCond .eq 22, 3) := by decide +kernel
theorem E84_56 {call : jv_F} {l0 l1 l2 l3 : Option Value} {x : Int32} {st : List Value} {h : jv_H} : jv_ev call 84 56 [l0, l1, l2, l3] (.int x :: st) h = if x = 0 then jv_ev call 84 78 [l0, l1, l2, l3] st h else jv_ev call 84 59 [l0, l1, l2, l3] st h := je_ifc D84_56 (by decide) rfl rfl
theorem D84_59 : decode (jt_code 84) 59 = .ok (.aload_n 0, 1) := by decide +kernel
theorem E84_59 {call : jv_F} {l1 l2 l3 : Option Value} {a : Nat} {st : List Value} {h : jv_H} : jv_ev call 84 59 [some (.ref a), l1, l2, l3] st h = jv_ev call 84 60 [some (.ref a), l1, l2, l3] (.ref a :: st) h := je_aload_n (r := some a) D84_59 rfl rfl
theorem D84_60 : decode (jt_code 84) 60 = .ok (.aload_n 2, 1) := by decide +kernel
theorem E84_60 {call : jv_F} {l0 l1 l3 : Option Value} {a : Nat} {st : List Value} {h : jv_H} : jv_ev call 84 60 [l0, l1, some (.ref a), l3] st h = jv_ev call 84 61 [l0, l1, some (.ref a), l3] (.ref a :: st) h := je_aload_n (r := some a) D84_60 rfl rfl
theorem E84_60r {call : jv_F} {l0 l1 l3 : Option Value} {r : Option Nat} {st : List Value} {h : jv_H} : jv_ev call 84 60 [l0, l1, some (va_rf r), l3] st h = jv_ev call 84 61 [l0, l1, some (va_rf r), l3] (va_rf r :: st) h := je_aload_n (r := r) D84_60 rfl rfl
theorem D84_61 : decode (jt_code 84) 61 = .ok (.iload_n 3, 1) := by decide +kernel
theorem E84_61 {call : jv_F} {l0 l1 l2 : Option Value} {x : Int32} {st : List Value} {h : jv_H} : jv_ev call 84 61 [l0, l1, l2, some (.int x)] st h = jv_ev call 84 62 [l0, l1, l2, some (.int x)] (.int x :: st) h := je_iload_n D84_61 rfl rfl
theorem D84_62 : decode (jt_code 84) 62 = .ok (.invokevirtual 41, 3) := by decide +kernel
theorem E84_62 {call : jv_F} {l0 l1 l2 l3 : Option Value} {b : Nat} {v0 v1 : Value}  {st : List Value} {h : jv_H} (hw : jv_wide st = true) (hcl : jv_cl h b = some 3) (hc : (call 79 [.ref b, v0, v1] h).isSome = true) : jv_ev call 84 62 [l0, l1, l2, l3] (v1 :: v0 :: .ref b :: st) h = jv_ev call 84 65 [l0, l1, l2, l3] ((((call 79 [.ref b, v0, v1] h).getD (none, h)).1).toList ++ st) ((call 79 [.ref b, v0, v1] h).getD (none, h)).2 := by
  obtain ⟨⟨r, h'⟩, hv⟩ := Option.isSome_iff_exists.mp hc
  rw [hv]
  exact je_virt (y := 79) (as := [v0, v1]) D84_62 rfl (by decide) (by decide) rfl hcl hw hv
theorem D84_65 : decode (jt_code 84) 65 = .ok (.aload_n 0, 1) := by decide +kernel
theorem E84_65 {call : jv_F} {l1 l2 l3 : Option Value} {a : Nat} {st : List Value} {h : jv_H} : jv_ev call 84 65 [some (.ref a), l1, l2, l3] st h = jv_ev call 84 66 [some (.ref a), l1, l2, l3] (.ref a :: st) h := je_aload_n (r := some a) D84_65 rfl rfl
theorem D84_66 : decode (jt_code 84) 66 = .ok (.dup, 1) := by decide +kernel
theorem E84_66 {call : jv_F} {l0 l1 l2 l3 : Option Value} {a : Nat} {st : List Value} {h : jv_H} : jv_ev call 84 66 [l0, l1, l2, l3] (.ref a :: st) h = jv_ev call 84 67 [l0, l1, l2, l3] (.ref a :: .ref a :: st) h := je_dup D84_66 rfl rfl
theorem E84_66i {call : jv_F} {l0 l1 l2 l3 : Option Value} {x : Int32} {st : List Value} {h : jv_H} : jv_ev call 84 66 [l0, l1, l2, l3] (.int x :: st) h = jv_ev call 84 67 [l0, l1, l2, l3] (.int x :: .int x :: st) h := je_dup D84_66 rfl rfl
theorem D84_67 : decode (jt_code 84) 67 = .ok (.getfield 38, 3) := by decide +kernel
theorem E84_67 {call : jv_F} {l0 l1 l2 l3 : Option Value} {a : Nat} {st : List Value} {h : jv_H} (hs : (jv_gf h a 3 7).isSome = true) : jv_ev call 84 67 [l0, l1, l2, l3] (.ref a :: st) h = jv_ev call 84 70 [l0, l1, l2, l3] ((jv_gf h a 3 7).getD .null :: st) h := by
  obtain ⟨v, hv⟩ := Option.isSome_iff_exists.mp hs
  rw [hv]
  exact je_get D84_67 rfl (by decide) hv
theorem D84_70 : decode (jt_code 84) 70 = .ok (.iconst 1, 1) := by decide +kernel
theorem E84_70 {call : jv_F} {l0 l1 l2 l3 : Option Value}  {st : List Value} {h : jv_H} : jv_ev call 84 70 [l0, l1, l2, l3] st h = jv_ev call 84 71 [l0, l1, l2, l3] (.int (nI 1) :: st) h := je_iconst D84_70 rfl (by decide)
theorem D84_71 : decode (jt_code 84) 71 = .ok (.iadd, 1) := by decide +kernel
theorem E84_71 {call : jv_F} {l0 l1 l2 l3 : Option Value} {x y : Int32} {st : List Value} {h : jv_H} : jv_ev call 84 71 [l0, l1, l2, l3] (.int y :: .int x :: st) h = jv_ev call 84 72 [l0, l1, l2, l3] (.int (x + y) :: st) h := je_b2 (f := fun x y => x + y) D84_71 rfl (fun _ => rfl)
theorem D84_72 : decode (jt_code 84) 72 = .ok (.putfield 38, 3) := by decide +kernel
theorem E84_72 {call : jv_F} {l0 l1 l2 l3 : Option Value} {a : Nat} {v : Value} {st : List Value} {h : jv_H} (hs : (jv_pf h a 3 7 v).isSome = true) : jv_ev call 84 72 [l0, l1, l2, l3] (v :: .ref a :: st) h = jv_ev call 84 75 [l0, l1, l2, l3] st ((jv_pf h a 3 7 v).getD h) := by
  obtain ⟨h', hv⟩ := Option.isSome_iff_exists.mp hs
  rw [hv]
  exact je_put D84_72 rfl (by decide) (by decide) hv
theorem D84_75 : decode (jt_code 84) 75 = .ok (.goto 18, 3) := by decide +kernel
theorem E84_75 {call : jv_F} {l0 l1 l2 l3 : Option Value}  {st : List Value} {h : jv_H} : jv_ev call 84 75 [l0, l1, l2, l3] st h = jv_ev call 84 93 [l0, l1, l2, l3] st h := je_goto D84_75 (by decide)
theorem D84_78 : decode (jt_code 84) 78 = .ok (.aload_n 0, 1) := by decide +kernel
theorem E84_78 {call : jv_F} {l1 l2 l3 : Option Value} {a : Nat} {st : List Value} {h : jv_H} : jv_ev call 84 78 [some (.ref a), l1, l2, l3] st h = jv_ev call 84 79 [some (.ref a), l1, l2, l3] (.ref a :: st) h := je_aload_n (r := some a) D84_78 rfl rfl
theorem D84_79 : decode (jt_code 84) 79 = .ok (.aload_n 2, 1) := by decide +kernel
theorem E84_79 {call : jv_F} {l0 l1 l3 : Option Value} {a : Nat} {st : List Value} {h : jv_H} : jv_ev call 84 79 [l0, l1, some (.ref a), l3] st h = jv_ev call 84 80 [l0, l1, some (.ref a), l3] (.ref a :: st) h := je_aload_n (r := some a) D84_79 rfl rfl
theorem E84_79r {call : jv_F} {l0 l1 l3 : Option Value} {r : Option Nat} {st : List Value} {h : jv_H} : jv_ev call 84 79 [l0, l1, some (va_rf r), l3] st h = jv_ev call 84 80 [l0, l1, some (va_rf r), l3] (va_rf r :: st) h := je_aload_n (r := r) D84_79 rfl rfl
theorem D84_80 : decode (jt_code 84) 80 = .ok (.invokevirtual 59, 3) := by decide +kernel
theorem E84_80 {call : jv_F} {l0 l1 l2 l3 : Option Value} {b : Nat} {v0 : Value}  {st : List Value} {h : jv_H} (hw : jv_wide st = true) (hcl : jv_cl h b = some 3) (hc : (call 80 [.ref b, v0] h).isSome = true) : jv_ev call 84 80 [l0, l1, l2, l3] (v0 :: .ref b :: st) h = jv_ev call 84 83 [l0, l1, l2, l3] ((((call 80 [.ref b, v0] h).getD (none, h)).1).toList ++ st) ((call 80 [.ref b, v0] h).getD (none, h)).2 := by
  obtain ⟨⟨r, h'⟩, hv⟩ := Option.isSome_iff_exists.mp hc
  rw [hv]
  exact je_virt (y := 80) (as := [v0]) D84_80 rfl (by decide) (by decide) rfl hcl hw hv
theorem D84_83 : decode (jt_code 84) 83 = .ok (.aload_n 0, 1) := by decide +kernel
theorem E84_83 {call : jv_F} {l1 l2 l3 : Option Value} {a : Nat} {st : List Value} {h : jv_H} : jv_ev call 84 83 [some (.ref a), l1, l2, l3] st h = jv_ev call 84 84 [some (.ref a), l1, l2, l3] (.ref a :: st) h := je_aload_n (r := some a) D84_83 rfl rfl
theorem D84_84 : decode (jt_code 84) 84 = .ok (.dup, 1) := by decide +kernel
theorem E84_84 {call : jv_F} {l0 l1 l2 l3 : Option Value} {a : Nat} {st : List Value} {h : jv_H} : jv_ev call 84 84 [l0, l1, l2, l3] (.ref a :: st) h = jv_ev call 84 85 [l0, l1, l2, l3] (.ref a :: .ref a :: st) h := je_dup D84_84 rfl rfl
theorem E84_84i {call : jv_F} {l0 l1 l2 l3 : Option Value} {x : Int32} {st : List Value} {h : jv_H} : jv_ev call 84 84 [l0, l1, l2, l3] (.int x :: st) h = jv_ev call 84 85 [l0, l1, l2, l3] (.int x :: .int x :: st) h := je_dup D84_84 rfl rfl
theorem D84_85 : decode (jt_code 84) 85 = .ok (.getfield 35, 3) := by decide +kernel
theorem E84_85 {call : jv_F} {l0 l1 l2 l3 : Option Value} {a : Nat} {st : List Value} {h : jv_H} (hs : (jv_gf h a 3 6).isSome = true) : jv_ev call 84 85 [l0, l1, l2, l3] (.ref a :: st) h = jv_ev call 84 88 [l0, l1, l2, l3] ((jv_gf h a 3 6).getD .null :: st) h := by
  obtain ⟨v, hv⟩ := Option.isSome_iff_exists.mp hs
  rw [hv]
  exact je_get D84_85 rfl (by decide) hv
theorem D84_88 : decode (jt_code 84) 88 = .ok (.iconst 1, 1) := by decide +kernel
theorem E84_88 {call : jv_F} {l0 l1 l2 l3 : Option Value}  {st : List Value} {h : jv_H} : jv_ev call 84 88 [l0, l1, l2, l3] st h = jv_ev call 84 89 [l0, l1, l2, l3] (.int (nI 1) :: st) h := je_iconst D84_88 rfl (by decide)
theorem D84_89 : decode (jt_code 84) 89 = .ok (.iadd, 1) := by decide +kernel
theorem E84_89 {call : jv_F} {l0 l1 l2 l3 : Option Value} {x y : Int32} {st : List Value} {h : jv_H} : jv_ev call 84 89 [l0, l1, l2, l3] (.int y :: .int x :: st) h = jv_ev call 84 90 [l0, l1, l2, l3] (.int (x + y) :: st) h := je_b2 (f := fun x y => x + y) D84_89 rfl (fun _ => rfl)
theorem D84_90 : decode (jt_code 84) 90 = .ok (.putfield 35, 3) := by decide +kernel
theorem E84_90 {call : jv_F} {l0 l1 l2 l3 : Option Value} {a : Nat} {v : Value} {st : List Value} {h : jv_H} (hs : (jv_pf h a 3 6 v).isSome = true) : jv_ev call 84 90 [l0, l1, l2, l3] (v :: .ref a :: st) h = jv_ev call 84 93 [l0, l1, l2, l3] st ((jv_pf h a 3 6 v).getD h) := by
  obtain ⟨h', hv⟩ := Option.isSome_iff_exists.mp hs
  rw [hv]
  exact je_put D84_90 rfl (by decide) (by decide) hv
theorem D84_93 : decode (jt_code 84) 93 = .ok (.aload_n 0, 1) := by decide +kernel
theorem E84_93 {call : jv_F} {l1 l2 l3 : Option Value} {a : Nat} {st : List Value} {h : jv_H} : jv_ev call 84 93 [some (.ref a), l1, l2, l3] st h = jv_ev call 84 94 [some (.ref a), l1, l2, l3] (.ref a :: st) h := je_aload_n (r := some a) D84_93 rfl rfl
theorem D84_94 : decode (jt_code 84) 94 = .ok (.iconst 0, 1) := by decide +kernel
theorem E84_94 {call : jv_F} {l0 l1 l2 l3 : Option Value}  {st : List Value} {h : jv_H} : jv_ev call 84 94 [l0, l1, l2, l3] st h = jv_ev call 84 95 [l0, l1, l2, l3] (.int (nI 0) :: st) h := je_iconst D84_94 rfl (by decide)
theorem D84_95 : decode (jt_code 84) 95 = .ok (.invokevirtual 51, 3) := by decide +kernel
theorem E84_95 {call : jv_F} {l0 l1 l2 l3 : Option Value} {b : Nat} {v0 : Value}  {st : List Value} {h : jv_H} (hw : jv_wide st = true) (hcl : jv_cl h b = some 3) (hc : (call 83 [.ref b, v0] h).isSome = true) : jv_ev call 84 95 [l0, l1, l2, l3] (v0 :: .ref b :: st) h = jv_ev call 84 98 [l0, l1, l2, l3] ((((call 83 [.ref b, v0] h).getD (none, h)).1).toList ++ st) ((call 83 [.ref b, v0] h).getD (none, h)).2 := by
  obtain ⟨⟨r, h'⟩, hv⟩ := Option.isSome_iff_exists.mp hc
  rw [hv]
  exact je_virt (y := 83) (as := [v0]) D84_95 rfl (by decide) (by decide) rfl hcl hw hv
theorem D84_98 : decode (jt_code 84) 98 = .ok (.aload_n 0, 1) := by decide +kernel
theorem E84_98 {call : jv_F} {l1 l2 l3 : Option Value} {a : Nat} {st : List Value} {h : jv_H} : jv_ev call 84 98 [some (.ref a), l1, l2, l3] st h = jv_ev call 84 99 [some (.ref a), l1, l2, l3] (.ref a :: st) h := je_aload_n (r := some a) D84_98 rfl rfl
theorem D84_99 : decode (jt_code 84) 99 = .ok (.aload_n 2, 1) := by decide +kernel
theorem E84_99 {call : jv_F} {l0 l1 l3 : Option Value} {a : Nat} {st : List Value} {h : jv_H} : jv_ev call 84 99 [l0, l1, some (.ref a), l3] st h = jv_ev call 84 100 [l0, l1, some (.ref a), l3] (.ref a :: st) h := je_aload_n (r := some a) D84_99 rfl rfl
theorem E84_99r {call : jv_F} {l0 l1 l3 : Option Value} {r : Option Nat} {st : List Value} {h : jv_H} : jv_ev call 84 99 [l0, l1, some (va_rf r), l3] st h = jv_ev call 84 100 [l0, l1, some (va_rf r), l3] (va_rf r :: st) h := je_aload_n (r := r) D84_99 rfl rfl
theorem D84_100 : decode (jt_code 84) 100 = .ok (.putfield 24, 3) := by decide +kernel
theorem E84_100 {call : jv_F} {l0 l1 l2 l3 : Option Value} {a : Nat} {v : Value} {st : List Value} {h : jv_H} (hs : (jv_pf h a 3 3 v).isSome = true) : jv_ev call 84 100 [l0, l1, l2, l3] (v :: .ref a :: st) h = jv_ev call 84 103 [l0, l1, l2, l3] st ((jv_pf h a 3 3 v).getD h) := by
  obtain ⟨h', hv⟩ := Option.isSome_iff_exists.mp hs
  rw [hv]
  exact je_put D84_100 rfl (by decide) (by decide) hv
theorem D84_103 : decode (jt_code 84) 103 = .ok (.aload_n 0, 1) := by decide +kernel
theorem E84_103 {call : jv_F} {l1 l2 l3 : Option Value} {a : Nat} {st : List Value} {h : jv_H} : jv_ev call 84 103 [some (.ref a), l1, l2, l3] st h = jv_ev call 84 104 [some (.ref a), l1, l2, l3] (.ref a :: st) h := je_aload_n (r := some a) D84_103 rfl rfl
theorem D84_104 : decode (jt_code 84) 104 = .ok (.iload_n 1, 1) := by decide +kernel
theorem E84_104 {call : jv_F} {l0 l2 l3 : Option Value} {x : Int32} {st : List Value} {h : jv_H} : jv_ev call 84 104 [l0, some (.int x), l2, l3] st h = jv_ev call 84 105 [l0, some (.int x), l2, l3] (.int x :: st) h := je_iload_n D84_104 rfl rfl
theorem D84_105 : decode (jt_code 84) 105 = .ok (.iload_n 3, 1) := by decide +kernel
theorem E84_105 {call : jv_F} {l0 l1 l2 : Option Value} {x : Int32} {st : List Value} {h : jv_H} : jv_ev call 84 105 [l0, l1, l2, some (.int x)] st h = jv_ev call 84 106 [l0, l1, l2, some (.int x)] (.int x :: st) h := je_iload_n D84_105 rfl rfl
theorem D84_106 : decode (jt_code 84) 106 = .ok (.iload_n 1, 1) := by decide +kernel
theorem E84_106 {call : jv_F} {l0 l2 l3 : Option Value} {x : Int32} {st : List Value} {h : jv_H} : jv_ev call 84 106 [l0, some (.int x), l2, l3] st h = jv_ev call 84 107 [l0, some (.int x), l2, l3] (.int x :: st) h := je_iload_n D84_106 rfl rfl
theorem D84_107 : decode (jt_code 84) 107 = .ok (.invokestatic 63, 3) := by decide +kernel
theorem E84_107 {call : jv_F} {l0 l1 l2 l3 : Option Value} {v0 v1 : Value}  {st : List Value} {h : jv_H} (hw : jv_wide st = true) (hc : (call 87 [v0, v1] h).isSome = true) : jv_ev call 84 107 [l0, l1, l2, l3] (v1 :: v0 :: st) h = jv_ev call 84 110 [l0, l1, l2, l3] ((((call 87 [v0, v1] h).getD (none, h)).1).toList ++ st) ((call 87 [v0, v1] h).getD (none, h)).2 := by
  obtain ⟨⟨r, h'⟩, hv⟩ := Option.isSome_iff_exists.mp hc
  rw [hv]
  exact je_stat (y := 87) (as := [v0, v1]) D84_107 rfl (by decide) (by decide) rfl hw hv
theorem D84_110 : decode (jt_code 84) 110 = .ok (.iadd, 1) := by decide +kernel
theorem E84_110 {call : jv_F} {l0 l1 l2 l3 : Option Value} {x y : Int32} {st : List Value} {h : jv_H} : jv_ev call 84 110 [l0, l1, l2, l3] (.int y :: .int x :: st) h = jv_ev call 84 111 [l0, l1, l2, l3] (.int (x + y) :: st) h := je_b2 (f := fun x y => x + y) D84_110 rfl (fun _ => rfl)
theorem D84_111 : decode (jt_code 84) 111 = .ok (.iconst 2, 1) := by decide +kernel
theorem E84_111 {call : jv_F} {l0 l1 l2 l3 : Option Value}  {st : List Value} {h : jv_H} : jv_ev call 84 111 [l0, l1, l2, l3] st h = jv_ev call 84 112 [l0, l1, l2, l3] (.int (nI 2) :: st) h := je_iconst D84_111 rfl (by decide)
theorem D84_112 : decode (jt_code 84) 112 = .ok (.iadd, 1) := by decide +kernel
theorem E84_112 {call : jv_F} {l0 l1 l2 l3 : Option Value} {x y : Int32} {st : List Value} {h : jv_H} : jv_ev call 84 112 [l0, l1, l2, l3] (.int y :: .int x :: st) h = jv_ev call 84 113 [l0, l1, l2, l3] (.int (x + y) :: st) h := je_b2 (f := fun x y => x + y) D84_112 rfl (fun _ => rfl)
theorem D84_113 : decode (jt_code 84) 113 = .ok (.putfield 28, 3) := by decide +kernel
theorem E84_113 {call : jv_F} {l0 l1 l2 l3 : Option Value} {a : Nat} {v : Value} {st : List Value} {h : jv_H} (hs : (jv_pf h a 3 4 v).isSome = true) : jv_ev call 84 113 [l0, l1, l2, l3] (v :: .ref a :: st) h = jv_ev call 84 116 [l0, l1, l2, l3] st ((jv_pf h a 3 4 v).getD h) := by
  obtain ⟨h', hv⟩ := Option.isSome_iff_exists.mp hs
  rw [hv]
  exact je_put D84_113 rfl (by decide) (by decide) hv
theorem D84_116 : decode (jt_code 84) 116 = .ok (.return_, 1) := by decide +kernel
theorem E84_116 {call : jv_F} {l0 l1 l2 l3 : Option Value}  {h : jv_H} : jv_ev call 84 116 [l0, l1, l2, l3] [] h = some (none, h) := je_ret D84_116 rfl
/-! method 91: DrumMachine$Job.isInStore -/
theorem N91 {d : Nat} {a0 : Int32} {h : jv_H} : jv_run (d + 1) 91 [.int a0] h = jv_ev (jv_run d) 91 0 [some (.int a0)] [] h := jv_run_eq (Nat.le_of_ble_eq_true rfl) rfl
theorem D91_0 : decode (jt_code 91) 0 = .ok (.iload_n 0, 1) := by decide +kernel
theorem E91_0 {call : jv_F} {x : Int32} {st : List Value} {h : jv_H} : jv_ev call 91 0 [some (.int x)] st h = jv_ev call 91 1 [some (.int x)] (.int x :: st) h := je_iload_n D91_0 rfl rfl
theorem D91_1 : decode (jt_code 91) 1 = .ok (.ifCond .lt 14, 3) := by decide +kernel
theorem E91_1 {call : jv_F} {l0 : Option Value} {x : Int32} {st : List Value} {h : jv_H} : jv_ev call 91 1 [l0] (.int x :: st) h = if x < 0 then jv_ev call 91 15 [l0] st h else jv_ev call 91 4 [l0] st h := je_ifc D91_1 (by decide) rfl rfl
theorem D91_4 : decode (jt_code 91) 4 = .ok (.iload_n 0, 1) := by decide +kernel
theorem E91_4 {call : jv_F} {x : Int32} {st : List Value} {h : jv_H} : jv_ev call 91 4 [some (.int x)] st h = jv_ev call 91 5 [some (.int x)] (.int x :: st) h := je_iload_n D91_4 rfl rfl
theorem D91_5 : decode (jt_code 91) 5 = .ok (.sipush 1024, 3) := by decide +kernel
theorem E91_5 {call : jv_F} {l0 : Option Value}  {st : List Value} {h : jv_H} : jv_ev call 91 5 [l0] st h = jv_ev call 91 8 [l0] (.int (nI 1024) :: st) h := je_sipush D91_5 rfl (by decide)
theorem D91_8 : decode (jt_code 91) 8 = .ok (.if_icmp .ge 7, 3) := by decide +kernel
theorem E91_8 {call : jv_F} {l0 : Option Value} {x y : Int32} {st : List Value} {h : jv_H} : jv_ev call 91 8 [l0] (.int y :: .int x :: st) h = if y ≤ x then jv_ev call 91 15 [l0] st h else jv_ev call 91 11 [l0] st h := je_icmp D91_8 (by decide) rfl rfl
theorem D91_11 : decode (jt_code 91) 11 = .ok (.iconst 1, 1) := by decide +kernel
theorem E91_11 {call : jv_F} {l0 : Option Value}  {st : List Value} {h : jv_H} : jv_ev call 91 11 [l0] st h = jv_ev call 91 12 [l0] (.int (nI 1) :: st) h := je_iconst D91_11 rfl (by decide)
theorem D91_12 : decode (jt_code 91) 12 = .ok (.goto 4, 3) := by decide +kernel
theorem E91_12 {call : jv_F} {l0 : Option Value}  {st : List Value} {h : jv_H} : jv_ev call 91 12 [l0] st h = jv_ev call 91 16 [l0] st h := je_goto D91_12 (by decide)
theorem D91_15 : decode (jt_code 91) 15 = .ok (.iconst 0, 1) := by decide +kernel
theorem E91_15 {call : jv_F} {l0 : Option Value}  {st : List Value} {h : jv_H} : jv_ev call 91 15 [l0] st h = jv_ev call 91 16 [l0] (.int (nI 0) :: st) h := je_iconst D91_15 rfl (by decide)
theorem D91_16 : decode (jt_code 91) 16 = .ok (.ireturn, 1) := by decide +kernel
theorem E91_16 {call : jv_F} {l0 : Option Value} {v : Int32} {h : jv_H} (hn : narrow .boolean (.int v) = .int v) (hf : fits .boolean (.int v) = true) : jv_ev call 91 16 [l0] [.int v] h = some (some (.int v), h) := je_iret (ty := .boolean) D91_16 rfl hn hf
/-! method 92: DrumMachine$Job.isReady -/
theorem N92 {d : Nat} {b : Nat} {a0 : Int32} {h : jv_H} : jv_run (d + 1) 92 [.ref b, .int a0] h = jv_ev (jv_run d) 92 0 [some (.ref b), some (.int a0)] [] h := jv_run_eq (Nat.le_of_ble_eq_true rfl) rfl
theorem D92_0 : decode (jt_code 92) 0 = .ok (.aload_n 0, 1) := by decide +kernel
theorem E92_0 {call : jv_F} {l1 : Option Value} {a : Nat} {st : List Value} {h : jv_H} : jv_ev call 92 0 [some (.ref a), l1] st h = jv_ev call 92 1 [some (.ref a), l1] (.ref a :: st) h := je_aload_n (r := some a) D92_0 rfl rfl
theorem D92_1 : decode (jt_code 92) 1 = .ok (.getfield 56, 3) := by decide +kernel
theorem E92_1 {call : jv_F} {l0 l1 : Option Value} {a : Nat} {st : List Value} {h : jv_H} (hs : (jv_gf h a 4 15).isSome = true) : jv_ev call 92 1 [l0, l1] (.ref a :: st) h = jv_ev call 92 4 [l0, l1] ((jv_gf h a 4 15).getD .null :: st) h := by
  obtain ⟨v, hv⟩ := Option.isSome_iff_exists.mp hs
  rw [hv]
  exact je_get D92_1 rfl (by decide) hv
theorem D92_4 : decode (jt_code 92) 4 = .ok (.ifCond .eq 5, 3) := by decide +kernel
theorem E92_4 {call : jv_F} {l0 l1 : Option Value} {x : Int32} {st : List Value} {h : jv_H} : jv_ev call 92 4 [l0, l1] (.int x :: st) h = if x = 0 then jv_ev call 92 9 [l0, l1] st h else jv_ev call 92 7 [l0, l1] st h := je_ifc D92_4 (by decide) rfl rfl
theorem D92_7 : decode (jt_code 92) 7 = .ok (.iload_n 1, 1) := by decide +kernel
theorem E92_7 {call : jv_F} {l0 : Option Value} {x : Int32} {st : List Value} {h : jv_H} : jv_ev call 92 7 [l0, some (.int x)] st h = jv_ev call 92 8 [l0, some (.int x)] (.int x :: st) h := je_iload_n D92_7 rfl rfl
theorem D92_8 : decode (jt_code 92) 8 = .ok (.ireturn, 1) := by decide +kernel
theorem E92_8 {call : jv_F} {l0 l1 : Option Value} {v : Int32} {h : jv_H} (hn : narrow .boolean (.int v) = .int v) (hf : fits .boolean (.int v) = true) : jv_ev call 92 8 [l0, l1] [.int v] h = some (some (.int v), h) := je_iret (ty := .boolean) D92_8 rfl hn hf
theorem D92_9 : decode (jt_code 92) 9 = .ok (.aload_n 0, 1) := by decide +kernel
theorem E92_9 {call : jv_F} {l1 : Option Value} {a : Nat} {st : List Value} {h : jv_H} : jv_ev call 92 9 [some (.ref a), l1] st h = jv_ev call 92 10 [some (.ref a), l1] (.ref a :: st) h := je_aload_n (r := some a) D92_9 rfl rfl
theorem D92_10 : decode (jt_code 92) 10 = .ok (.getfield 52, 3) := by decide +kernel
theorem E92_10 {call : jv_F} {l0 l1 : Option Value} {a : Nat} {st : List Value} {h : jv_H} (hs : (jv_gf h a 4 14).isSome = true) : jv_ev call 92 10 [l0, l1] (.ref a :: st) h = jv_ev call 92 13 [l0, l1] ((jv_gf h a 4 14).getD .null :: st) h := by
  obtain ⟨v, hv⟩ := Option.isSome_iff_exists.mp hs
  rw [hv]
  exact je_get D92_10 rfl (by decide) hv
theorem D92_13 : decode (jt_code 92) 13 = .ok (.ifnull 13, 3) := by decide +kernel
theorem E92_13r {call : jv_F} {l0 l1 : Option Value} {x : Option Nat} {st : List Value} {h : jv_H} : jv_ev call 92 13 [l0, l1] (va_rf x :: st) h = if x = none then jv_ev call 92 26 [l0, l1] st h else jv_ev call 92 16 [l0, l1] st h := je_ifnull D92_13 (by decide) rfl
theorem E92_13 {call : jv_F} {l0 l1 : Option Value} {x : Nat} {st : List Value} {h : jv_H} : jv_ev call 92 13 [l0, l1] (.ref x :: st) h = jv_ev call 92 16 [l0, l1] st h := (je_ifnull (x := some x) (t := 26) D92_13 (by decide) rfl).trans (if_neg (by simp))
theorem D92_16 : decode (jt_code 92) 16 = .ok (.aload_n 0, 1) := by decide +kernel
theorem E92_16 {call : jv_F} {l1 : Option Value} {a : Nat} {st : List Value} {h : jv_H} : jv_ev call 92 16 [some (.ref a), l1] st h = jv_ev call 92 17 [some (.ref a), l1] (.ref a :: st) h := je_aload_n (r := some a) D92_16 rfl rfl
theorem D92_17 : decode (jt_code 92) 17 = .ok (.getfield 52, 3) := by decide +kernel
theorem E92_17 {call : jv_F} {l0 l1 : Option Value} {a : Nat} {st : List Value} {h : jv_H} (hs : (jv_gf h a 4 14).isSome = true) : jv_ev call 92 17 [l0, l1] (.ref a :: st) h = jv_ev call 92 20 [l0, l1] ((jv_gf h a 4 14).getD .null :: st) h := by
  obtain ⟨v, hv⟩ := Option.isSome_iff_exists.mp hs
  rw [hv]
  exact je_get D92_17 rfl (by decide) hv
theorem D92_20 : decode (jt_code 92) 20 = .ok (.getfield 85, 3) := by decide +kernel
theorem E92_20 {call : jv_F} {l0 l1 : Option Value} {a : Nat} {st : List Value} {h : jv_H} (hs : (jv_gf h a 1 4).isSome = true) : jv_ev call 92 20 [l0, l1] (.ref a :: st) h = jv_ev call 92 23 [l0, l1] ((jv_gf h a 1 4).getD .null :: st) h := by
  obtain ⟨v, hv⟩ := Option.isSome_iff_exists.mp hs
  rw [hv]
  exact je_get D92_20 rfl (by decide) hv
theorem D92_23 : decode (jt_code 92) 23 = .ok (.ifCond .ne 7, 3) := by decide +kernel
theorem E92_23 {call : jv_F} {l0 l1 : Option Value} {x : Int32} {st : List Value} {h : jv_H} : jv_ev call 92 23 [l0, l1] (.int x :: st) h = if ¬ x = 0 then jv_ev call 92 30 [l0, l1] st h else jv_ev call 92 26 [l0, l1] st h := je_ifc D92_23 (by decide) rfl rfl
theorem D92_26 : decode (jt_code 92) 26 = .ok (.iconst 1, 1) := by decide +kernel
theorem E92_26 {call : jv_F} {l0 l1 : Option Value}  {st : List Value} {h : jv_H} : jv_ev call 92 26 [l0, l1] st h = jv_ev call 92 27 [l0, l1] (.int (nI 1) :: st) h := je_iconst D92_26 rfl (by decide)
theorem D92_27 : decode (jt_code 92) 27 = .ok (.goto 4, 3) := by decide +kernel
theorem E92_27 {call : jv_F} {l0 l1 : Option Value}  {st : List Value} {h : jv_H} : jv_ev call 92 27 [l0, l1] st h = jv_ev call 92 31 [l0, l1] st h := je_goto D92_27 (by decide)
theorem D92_30 : decode (jt_code 92) 30 = .ok (.iconst 0, 1) := by decide +kernel
theorem E92_30 {call : jv_F} {l0 l1 : Option Value}  {st : List Value} {h : jv_H} : jv_ev call 92 30 [l0, l1] st h = jv_ev call 92 31 [l0, l1] (.int (nI 0) :: st) h := je_iconst D92_30 rfl (by decide)
theorem D92_31 : decode (jt_code 92) 31 = .ok (.ireturn, 1) := by decide +kernel
theorem E92_31 {call : jv_F} {l0 l1 : Option Value} {v : Int32} {h : jv_H} (hn : narrow .boolean (.int v) = .int v) (hf : fits .boolean (.int v) = true) : jv_ev call 92 31 [l0, l1] [.int v] h = some (some (.int v), h) := je_iret (ty := .boolean) D92_31 rfl hn hf
/-! method 95: DrumMachine$Job.blockOf -/
theorem N95 {d : Nat} {b : Nat} {a0 : Int32} {h : jv_H} : jv_run (d + 1) 95 [.ref b, .int a0] h = jv_ev (jv_run d) 95 0 [some (.ref b), some (.int a0)] [] h := jv_run_eq (Nat.le_of_ble_eq_true rfl) rfl
theorem D95_0 : decode (jt_code 95) 0 = .ok (.iload_n 1, 1) := by decide +kernel
theorem E95_0 {call : jv_F} {l0 : Option Value} {x : Int32} {st : List Value} {h : jv_H} : jv_ev call 95 0 [l0, some (.int x)] st h = jv_ev call 95 1 [l0, some (.int x)] (.int x :: st) h := je_iload_n D95_0 rfl rfl
theorem D95_1 : decode (jt_code 95) 1 = .ok (.invokestatic 92, 3) := by decide +kernel
theorem E95_1 {call : jv_F} {l0 l1 : Option Value} {v0 : Value}  {st : List Value} {h : jv_H} (hw : jv_wide st = true) (hc : (call 91 [v0] h).isSome = true) : jv_ev call 95 1 [l0, l1] (v0 :: st) h = jv_ev call 95 4 [l0, l1] ((((call 91 [v0] h).getD (none, h)).1).toList ++ st) ((call 91 [v0] h).getD (none, h)).2 := by
  obtain ⟨⟨r, h'⟩, hv⟩ := Option.isSome_iff_exists.mp hc
  rw [hv]
  exact je_stat (y := 91) (as := [v0]) D95_1 rfl (by decide) (by decide) rfl hw hv
theorem D95_4 : decode (jt_code 95) 4 = .ok (.ifCond .eq 15, 3) := by decide +kernel
theorem E95_4 {call : jv_F} {l0 l1 : Option Value} {x : Int32} {st : List Value} {h : jv_H} : jv_ev call 95 4 [l0, l1] (.int x :: st) h = if x = 0 then jv_ev call 95 19 [l0, l1] st h else jv_ev call 95 7 [l0, l1] st h := je_ifc D95_4 (by decide) rfl rfl
theorem D95_7 : decode (jt_code 95) 7 = .ok (.aload_n 0, 1) := by decide +kernel
theorem E95_7 {call : jv_F} {l1 : Option Value} {a : Nat} {st : List Value} {h : jv_H} : jv_ev call 95 7 [some (.ref a), l1] st h = jv_ev call 95 8 [some (.ref a), l1] (.ref a :: st) h := je_aload_n (r := some a) D95_7 rfl rfl
theorem D95_8 : decode (jt_code 95) 8 = .ok (.getfield 29, 3) := by decide +kernel
theorem E95_8 {call : jv_F} {l0 l1 : Option Value} {a : Nat} {st : List Value} {h : jv_H} (hs : (jv_gf h a 4 6).isSome = true) : jv_ev call 95 8 [l0, l1] (.ref a :: st) h = jv_ev call 95 11 [l0, l1] ((jv_gf h a 4 6).getD .null :: st) h := by
  obtain ⟨v, hv⟩ := Option.isSome_iff_exists.mp hs
  rw [hv]
  exact je_get D95_8 rfl (by decide) hv
theorem D95_11 : decode (jt_code 95) 11 = .ok (.iload_n 1, 1) := by decide +kernel
theorem E95_11 {call : jv_F} {l0 : Option Value} {x : Int32} {st : List Value} {h : jv_H} : jv_ev call 95 11 [l0, some (.int x)] st h = jv_ev call 95 12 [l0, some (.int x)] (.int x :: st) h := je_iload_n D95_11 rfl rfl
theorem D95_12 : decode (jt_code 95) 12 = .ok (.bipush 16, 2) := by decide +kernel
theorem E95_12 {call : jv_F} {l0 l1 : Option Value}  {st : List Value} {h : jv_H} : jv_ev call 95 12 [l0, l1] st h = jv_ev call 95 14 [l0, l1] (.int (nI 16) :: st) h := je_bipush D95_12 rfl (by decide)
theorem D95_14 : decode (jt_code 95) 14 = .ok (.idiv, 1) := by decide +kernel
theorem E95_14 {call : jv_F} {l0 l1 : Option Value} {x y : Int32} {st : List Value} {h : jv_H} (hy : ¬ y = 0) : jv_ev call 95 14 [l0, l1] (.int y :: .int x :: st) h = jv_ev call 95 15 [l0, l1] (.int (x / y) :: st) h := je_idiv D95_14 rfl hy
theorem D95_15 : decode (jt_code 95) 15 = .ok (.aaload, 1) := by decide +kernel
theorem E95_15 {call : jv_F} {l0 l1 : Option Value} {a : Nat} {j : Int32} {C : String} {st : List Value} {h : jv_H} (hC : jv_kn h a = some C) (hs : (jv_al h a (.object C) j).isSome = true) : jv_ev call 95 15 [l0, l1] (.int j :: .ref a :: st) h = jv_ev call 95 16 [l0, l1] ((jv_al h a (.object C) j).getD .null :: st) h := by
  obtain ⟨v, hv⟩ := Option.isSome_iff_exists.mp hs
  rw [hv]
  exact je_aald D95_15 rfl hC hv
theorem D95_16 : decode (jt_code 95) 16 = .ok (.goto 4, 3) := by decide +kernel
theorem E95_16 {call : jv_F} {l0 l1 : Option Value}  {st : List Value} {h : jv_H} : jv_ev call 95 16 [l0, l1] st h = jv_ev call 95 20 [l0, l1] st h := je_goto D95_16 (by decide)
theorem D95_19 : decode (jt_code 95) 19 = .ok (.aconst_null, 1) := by decide +kernel
theorem E95_19 {call : jv_F} {l0 l1 : Option Value}  {st : List Value} {h : jv_H} : jv_ev call 95 19 [l0, l1] st h = jv_ev call 95 20 [l0, l1] (.null :: st) h := je_null D95_19 rfl
theorem D95_20 : decode (jt_code 95) 20 = .ok (.areturn, 1) := by decide +kernel
theorem E95_20r {call : jv_F} {l0 l1 : Option Value} {r : Option Nat} {h : jv_H} : jv_ev call 95 20 [l0, l1] [va_rf r] h = some (some (va_rf r), h) := je_aret D95_20 rfl
theorem E95_20 {call : jv_F} {l0 l1 : Option Value} {a : Nat} {h : jv_H} : jv_ev call 95 20 [l0, l1] [.ref a] h = some (some (.ref a), h) := je_aret (r := some a) D95_20 rfl
theorem E95_20n {call : jv_F} {l0 l1 : Option Value}  {h : jv_H} : jv_ev call 95 20 [l0, l1] [.null] h = some (some .null, h) := je_aret (r := none) D95_20 rfl
/-! method 96: DrumMachine$Job.setBlock -/
theorem N96 {d : Nat} {b : Nat} {a0 : Int32} {a1 : Option Nat} {h : jv_H} : jv_run (d + 1) 96 [.ref b, .int a0, va_rf a1] h = jv_ev (jv_run d) 96 0 [some (.ref b), some (.int a0), some (va_rf a1)] [] h := by
  cases a1 <;>
  exact jv_run_eq (Nat.le_of_ble_eq_true rfl) rfl
theorem D96_0 : decode (jt_code 96) 0 = .ok (.iload_n 1, 1) := by decide +kernel
theorem E96_0 {call : jv_F} {l0 l2 : Option Value} {x : Int32} {st : List Value} {h : jv_H} : jv_ev call 96 0 [l0, some (.int x), l2] st h = jv_ev call 96 1 [l0, some (.int x), l2] (.int x :: st) h := je_iload_n D96_0 rfl rfl
theorem D96_1 : decode (jt_code 96) 1 = .ok (.ifCond .lt 16, 3) := by decide +kernel
theorem E96_1 {call : jv_F} {l0 l1 l2 : Option Value} {x : Int32} {st : List Value} {h : jv_H} : jv_ev call 96 1 [l0, l1, l2] (.int x :: st) h = if x < 0 then jv_ev call 96 17 [l0, l1, l2] st h else jv_ev call 96 4 [l0, l1, l2] st h := je_ifc D96_1 (by decide) rfl rfl
theorem D96_4 : decode (jt_code 96) 4 = .ok (.iload_n 1, 1) := by decide +kernel
theorem E96_4 {call : jv_F} {l0 l2 : Option Value} {x : Int32} {st : List Value} {h : jv_H} : jv_ev call 96 4 [l0, some (.int x), l2] st h = jv_ev call 96 5 [l0, some (.int x), l2] (.int x :: st) h := je_iload_n D96_4 rfl rfl
theorem D96_5 : decode (jt_code 96) 5 = .ok (.bipush 64, 2) := by decide +kernel
theorem E96_5 {call : jv_F} {l0 l1 l2 : Option Value}  {st : List Value} {h : jv_H} : jv_ev call 96 5 [l0, l1, l2] st h = jv_ev call 96 7 [l0, l1, l2] (.int (nI 64) :: st) h := je_bipush D96_5 rfl (by decide)
theorem D96_7 : decode (jt_code 96) 7 = .ok (.if_icmp .ge 10, 3) := by decide +kernel
theorem E96_7 {call : jv_F} {l0 l1 l2 : Option Value} {x y : Int32} {st : List Value} {h : jv_H} : jv_ev call 96 7 [l0, l1, l2] (.int y :: .int x :: st) h = if y ≤ x then jv_ev call 96 17 [l0, l1, l2] st h else jv_ev call 96 10 [l0, l1, l2] st h := je_icmp D96_7 (by decide) rfl rfl
theorem D96_10 : decode (jt_code 96) 10 = .ok (.aload_n 0, 1) := by decide +kernel
theorem E96_10 {call : jv_F} {l1 l2 : Option Value} {a : Nat} {st : List Value} {h : jv_H} : jv_ev call 96 10 [some (.ref a), l1, l2] st h = jv_ev call 96 11 [some (.ref a), l1, l2] (.ref a :: st) h := je_aload_n (r := some a) D96_10 rfl rfl
theorem D96_11 : decode (jt_code 96) 11 = .ok (.getfield 29, 3) := by decide +kernel
theorem E96_11 {call : jv_F} {l0 l1 l2 : Option Value} {a : Nat} {st : List Value} {h : jv_H} (hs : (jv_gf h a 4 6).isSome = true) : jv_ev call 96 11 [l0, l1, l2] (.ref a :: st) h = jv_ev call 96 14 [l0, l1, l2] ((jv_gf h a 4 6).getD .null :: st) h := by
  obtain ⟨v, hv⟩ := Option.isSome_iff_exists.mp hs
  rw [hv]
  exact je_get D96_11 rfl (by decide) hv
theorem D96_14 : decode (jt_code 96) 14 = .ok (.iload_n 1, 1) := by decide +kernel
theorem E96_14 {call : jv_F} {l0 l2 : Option Value} {x : Int32} {st : List Value} {h : jv_H} : jv_ev call 96 14 [l0, some (.int x), l2] st h = jv_ev call 96 15 [l0, some (.int x), l2] (.int x :: st) h := je_iload_n D96_14 rfl rfl
theorem D96_15 : decode (jt_code 96) 15 = .ok (.aload_n 2, 1) := by decide +kernel
theorem E96_15 {call : jv_F} {l0 l1 : Option Value} {a : Nat} {st : List Value} {h : jv_H} : jv_ev call 96 15 [l0, l1, some (.ref a)] st h = jv_ev call 96 16 [l0, l1, some (.ref a)] (.ref a :: st) h := je_aload_n (r := some a) D96_15 rfl rfl
theorem E96_15r {call : jv_F} {l0 l1 : Option Value} {r : Option Nat} {st : List Value} {h : jv_H} : jv_ev call 96 15 [l0, l1, some (va_rf r)] st h = jv_ev call 96 16 [l0, l1, some (va_rf r)] (va_rf r :: st) h := je_aload_n (r := r) D96_15 rfl rfl
theorem D96_16 : decode (jt_code 96) 16 = .ok (.aastore, 1) := by decide +kernel
theorem E96_16 {call : jv_F} {l0 l1 l2 : Option Value} {a : Nat} {j : Int32} {C : String} {v : Value} {st : List Value} {h : jv_H} (hC : jv_kn h a = some C) (hA : jv_isA h C v = true) (hs : (jv_as h a (.object C) j v).isSome = true) : jv_ev call 96 16 [l0, l1, l2] (v :: .int j :: .ref a :: st) h = jv_ev call 96 17 [l0, l1, l2] st ((jv_as h a (.object C) j v).getD h) := by
  obtain ⟨h', hv⟩ := Option.isSome_iff_exists.mp hs
  rw [hv]
  exact je_aast D96_16 rfl hC hA hv
theorem D96_17 : decode (jt_code 96) 17 = .ok (.return_, 1) := by decide +kernel
theorem E96_17 {call : jv_F} {l0 l1 l2 : Option Value}  {h : jv_H} : jv_ev call 96 17 [l0, l1, l2] [] h = some (none, h) := je_ret D96_17 rfl
/-! method 97: DrumMachine$Job.load -/
theorem N97 {d : Nat} {b : Nat} {a0 : Int32} {h : jv_H} : jv_run (d + 1) 97 [.ref b, .int a0] h = jv_ev (jv_run d) 97 0 [some (.ref b), some (.int a0)] [] h := jv_run_eq (Nat.le_of_ble_eq_true rfl) rfl
theorem D97_0 : decode (jt_code 97) 0 = .ok (.iload_n 1, 1) := by decide +kernel
theorem E97_0 {call : jv_F} {l0 : Option Value} {x : Int32} {st : List Value} {h : jv_H} : jv_ev call 97 0 [l0, some (.int x)] st h = jv_ev call 97 1 [l0, some (.int x)] (.int x :: st) h := je_iload_n D97_0 rfl rfl
theorem D97_1 : decode (jt_code 97) 1 = .ok (.invokestatic 92, 3) := by decide +kernel
theorem E97_1 {call : jv_F} {l0 l1 : Option Value} {v0 : Value}  {st : List Value} {h : jv_H} (hw : jv_wide st = true) (hc : (call 91 [v0] h).isSome = true) : jv_ev call 97 1 [l0, l1] (v0 :: st) h = jv_ev call 97 4 [l0, l1] ((((call 91 [v0] h).getD (none, h)).1).toList ++ st) ((call 91 [v0] h).getD (none, h)).2 := by
  obtain ⟨⟨r, h'⟩, hv⟩ := Option.isSome_iff_exists.mp hc
  rw [hv]
  exact je_stat (y := 91) (as := [v0]) D97_1 rfl (by decide) (by decide) rfl hw hv
theorem D97_4 : decode (jt_code 97) 4 = .ok (.ifCond .eq 12, 3) := by decide +kernel
theorem E97_4 {call : jv_F} {l0 l1 : Option Value} {x : Int32} {st : List Value} {h : jv_H} : jv_ev call 97 4 [l0, l1] (.int x :: st) h = if x = 0 then jv_ev call 97 16 [l0, l1] st h else jv_ev call 97 7 [l0, l1] st h := je_ifc D97_4 (by decide) rfl rfl
theorem D97_7 : decode (jt_code 97) 7 = .ok (.aload_n 0, 1) := by decide +kernel
theorem E97_7 {call : jv_F} {l1 : Option Value} {a : Nat} {st : List Value} {h : jv_H} : jv_ev call 97 7 [some (.ref a), l1] st h = jv_ev call 97 8 [some (.ref a), l1] (.ref a :: st) h := je_aload_n (r := some a) D97_7 rfl rfl
theorem D97_8 : decode (jt_code 97) 8 = .ok (.getfield 23, 3) := by decide +kernel
theorem E97_8 {call : jv_F} {l0 l1 : Option Value} {a : Nat} {st : List Value} {h : jv_H} (hs : (jv_gf h a 4 5).isSome = true) : jv_ev call 97 8 [l0, l1] (.ref a :: st) h = jv_ev call 97 11 [l0, l1] ((jv_gf h a 4 5).getD .null :: st) h := by
  obtain ⟨v, hv⟩ := Option.isSome_iff_exists.mp hs
  rw [hv]
  exact je_get D97_8 rfl (by decide) hv
theorem D97_11 : decode (jt_code 97) 11 = .ok (.iload_n 1, 1) := by decide +kernel
theorem E97_11 {call : jv_F} {l0 : Option Value} {x : Int32} {st : List Value} {h : jv_H} : jv_ev call 97 11 [l0, some (.int x)] st h = jv_ev call 97 12 [l0, some (.int x)] (.int x :: st) h := je_iload_n D97_11 rfl rfl
theorem D97_12 : decode (jt_code 97) 12 = .ok (.laload, 1) := by decide +kernel
theorem E97_12 {call : jv_F} {l0 l1 : Option Value} {a : Nat} {j : Int32} {st : List Value} {h : jv_H} (hs : (jv_al h a .long j).isSome = true) : jv_ev call 97 12 [l0, l1] (.int j :: .ref a :: st) h = jv_ev call 97 13 [l0, l1] ((jv_al h a .long j).getD .null :: st) h := by
  obtain ⟨v, hv⟩ := Option.isSome_iff_exists.mp hs
  rw [hv]
  exact je_lald D97_12 rfl hv
theorem D97_13 : decode (jt_code 97) 13 = .ok (.goto 4, 3) := by decide +kernel
theorem E97_13 {call : jv_F} {l0 l1 : Option Value}  {st : List Value} {h : jv_H} : jv_ev call 97 13 [l0, l1] st h = jv_ev call 97 17 [l0, l1] st h := je_goto D97_13 (by decide)
theorem D97_16 : decode (jt_code 97) 16 = .ok (.lconst 0, 1) := by decide +kernel
theorem E97_16 {call : jv_F} {l0 l1 : Option Value}  {st : List Value} {h : jv_H} : jv_ev call 97 16 [l0, l1] st h = jv_ev call 97 17 [l0, l1] (.long 0 :: st) h := je_lconst D97_16 rfl (by decide)
theorem D97_17 : decode (jt_code 97) 17 = .ok (.lreturn, 1) := by decide +kernel
theorem E97_17 {call : jv_F} {l0 l1 : Option Value} {v : Int64} {h : jv_H} : jv_ev call 97 17 [l0, l1] [.long v] h = some (some (.long v), h) := je_lret D97_17 rfl
/-! method 98: DrumMachine$Job.keep -/
theorem N98 {d : Nat} {b : Nat} {a0 : Int32} {a1 : Int64} {h : jv_H} : jv_run (d + 1) 98 [.ref b, .int a0, .long a1] h = jv_ev (jv_run d) 98 0 [some (.ref b), some (.int a0), some (.long a1), none] [] h := jv_run_eq (Nat.le_of_ble_eq_true rfl) rfl
theorem D98_0 : decode (jt_code 98) 0 = .ok (.iload_n 1, 1) := by decide +kernel
theorem E98_0 {call : jv_F} {l0 l2 l3 : Option Value} {x : Int32} {st : List Value} {h : jv_H} : jv_ev call 98 0 [l0, some (.int x), l2, l3] st h = jv_ev call 98 1 [l0, some (.int x), l2, l3] (.int x :: st) h := je_iload_n D98_0 rfl rfl
theorem D98_1 : decode (jt_code 98) 1 = .ok (.invokestatic 92, 3) := by decide +kernel
theorem E98_1 {call : jv_F} {l0 l1 l2 l3 : Option Value} {v0 : Value}  {st : List Value} {h : jv_H} (hw : jv_wide st = true) (hc : (call 91 [v0] h).isSome = true) : jv_ev call 98 1 [l0, l1, l2, l3] (v0 :: st) h = jv_ev call 98 4 [l0, l1, l2, l3] ((((call 91 [v0] h).getD (none, h)).1).toList ++ st) ((call 91 [v0] h).getD (none, h)).2 := by
  obtain ⟨⟨r, h'⟩, hv⟩ := Option.isSome_iff_exists.mp hc
  rw [hv]
  exact je_stat (y := 91) (as := [v0]) D98_1 rfl (by decide) (by decide) rfl hw hv
theorem D98_4 : decode (jt_code 98) 4 = .ok (.ifCond .eq 10, 3) := by decide +kernel
theorem E98_4 {call : jv_F} {l0 l1 l2 l3 : Option Value} {x : Int32} {st : List Value} {h : jv_H} : jv_ev call 98 4 [l0, l1, l2, l3] (.int x :: st) h = if x = 0 then jv_ev call 98 14 [l0, l1, l2, l3] st h else jv_ev call 98 7 [l0, l1, l2, l3] st h := je_ifc D98_4 (by decide) rfl rfl
theorem D98_7 : decode (jt_code 98) 7 = .ok (.aload_n 0, 1) := by decide +kernel
theorem E98_7 {call : jv_F} {l1 l2 l3 : Option Value} {a : Nat} {st : List Value} {h : jv_H} : jv_ev call 98 7 [some (.ref a), l1, l2, l3] st h = jv_ev call 98 8 [some (.ref a), l1, l2, l3] (.ref a :: st) h := je_aload_n (r := some a) D98_7 rfl rfl
theorem D98_8 : decode (jt_code 98) 8 = .ok (.getfield 23, 3) := by decide +kernel
theorem E98_8 {call : jv_F} {l0 l1 l2 l3 : Option Value} {a : Nat} {st : List Value} {h : jv_H} (hs : (jv_gf h a 4 5).isSome = true) : jv_ev call 98 8 [l0, l1, l2, l3] (.ref a :: st) h = jv_ev call 98 11 [l0, l1, l2, l3] ((jv_gf h a 4 5).getD .null :: st) h := by
  obtain ⟨v, hv⟩ := Option.isSome_iff_exists.mp hs
  rw [hv]
  exact je_get D98_8 rfl (by decide) hv
theorem D98_11 : decode (jt_code 98) 11 = .ok (.iload_n 1, 1) := by decide +kernel
theorem E98_11 {call : jv_F} {l0 l2 l3 : Option Value} {x : Int32} {st : List Value} {h : jv_H} : jv_ev call 98 11 [l0, some (.int x), l2, l3] st h = jv_ev call 98 12 [l0, some (.int x), l2, l3] (.int x :: st) h := je_iload_n D98_11 rfl rfl
theorem D98_12 : decode (jt_code 98) 12 = .ok (.lload_n 2, 1) := by decide +kernel
theorem E98_12 {call : jv_F} {l0 l1 l3 : Option Value} {x : Int64} {st : List Value} {h : jv_H} : jv_ev call 98 12 [l0, l1, some (.long x), l3] st h = jv_ev call 98 13 [l0, l1, some (.long x), l3] (.long x :: st) h := je_lload_n D98_12 rfl rfl
theorem D98_13 : decode (jt_code 98) 13 = .ok (.lastore, 1) := by decide +kernel
theorem E98_13 {call : jv_F} {l0 l1 l2 l3 : Option Value} {a : Nat} {j : Int32} {x : Int64} {st : List Value} {h : jv_H} (hs : (jv_as h a .long j (.long x)).isSome = true) : jv_ev call 98 13 [l0, l1, l2, l3] (.long x :: .int j :: .ref a :: st) h = jv_ev call 98 14 [l0, l1, l2, l3] st ((jv_as h a .long j (.long x)).getD h) := by
  obtain ⟨h', hv⟩ := Option.isSome_iff_exists.mp hs
  rw [hv]
  exact je_last D98_13 rfl hv
theorem D98_14 : decode (jt_code 98) 14 = .ok (.return_, 1) := by decide +kernel
theorem E98_14 {call : jv_F} {l0 l1 l2 l3 : Option Value}  {h : jv_H} : jv_ev call 98 14 [l0, l1, l2, l3] [] h = some (none, h) := je_ret D98_14 rfl
/-! method 108: DrumMachine$Job.printByte -/
theorem N108 {d : Nat} {b : Nat} {a0 : Int32} {h : jv_H} : jv_run (d + 1) 108 [.ref b, .int a0] h = jv_ev (jv_run d) 108 0 [some (.ref b), some (.int a0)] [] h := jv_run_eq (Nat.le_of_ble_eq_true rfl) rfl
theorem D108_0 : decode (jt_code 108) 0 = .ok (.aload_n 0, 1) := by decide +kernel
theorem E108_0 {call : jv_F} {l1 : Option Value} {a : Nat} {st : List Value} {h : jv_H} : jv_ev call 108 0 [some (.ref a), l1] st h = jv_ev call 108 1 [some (.ref a), l1] (.ref a :: st) h := je_aload_n (r := some a) D108_0 rfl rfl
theorem D108_1 : decode (jt_code 108) 1 = .ok (.getfield 39, 3) := by decide +kernel
theorem E108_1 {call : jv_F} {l0 l1 : Option Value} {a : Nat} {st : List Value} {h : jv_H} (hs : (jv_gf h a 4 10).isSome = true) : jv_ev call 108 1 [l0, l1] (.ref a :: st) h = jv_ev call 108 4 [l0, l1] ((jv_gf h a 4 10).getD .null :: st) h := by
  obtain ⟨v, hv⟩ := Option.isSome_iff_exists.mp hs
  rw [hv]
  exact je_get D108_1 rfl (by decide) hv
theorem D108_4 : decode (jt_code 108) 4 = .ok (.ifCond .lt 13, 3) := by decide +kernel
theorem E108_4 {call : jv_F} {l0 l1 : Option Value} {x : Int32} {st : List Value} {h : jv_H} : jv_ev call 108 4 [l0, l1] (.int x :: st) h = if x < 0 then jv_ev call 108 17 [l0, l1] st h else jv_ev call 108 7 [l0, l1] st h := je_ifc D108_4 (by decide) rfl rfl
theorem D108_7 : decode (jt_code 108) 7 = .ok (.aload_n 0, 1) := by decide +kernel
theorem E108_7 {call : jv_F} {l1 : Option Value} {a : Nat} {st : List Value} {h : jv_H} : jv_ev call 108 7 [some (.ref a), l1] st h = jv_ev call 108 8 [some (.ref a), l1] (.ref a :: st) h := je_aload_n (r := some a) D108_7 rfl rfl
theorem D108_8 : decode (jt_code 108) 8 = .ok (.getfield 39, 3) := by decide +kernel
theorem E108_8 {call : jv_F} {l0 l1 : Option Value} {a : Nat} {st : List Value} {h : jv_H} (hs : (jv_gf h a 4 10).isSome = true) : jv_ev call 108 8 [l0, l1] (.ref a :: st) h = jv_ev call 108 11 [l0, l1] ((jv_gf h a 4 10).getD .null :: st) h := by
  obtain ⟨v, hv⟩ := Option.isSome_iff_exists.mp hs
  rw [hv]
  exact je_get D108_8 rfl (by decide) hv
theorem D108_11 : decode (jt_code 108) 11 = .ok (.sipush 400, 3) := by decide +kernel
theorem E108_11 {call : jv_F} {l0 l1 : Option Value}  {st : List Value} {h : jv_H} : jv_ev call 108 11 [l0, l1] st h = jv_ev call 108 14 [l0, l1] (.int (nI 400) :: st) h := je_sipush D108_11 rfl (by decide)
theorem D108_14 : decode (jt_code 108) 14 = .ok (.if_icmp .lt 6, 3) := by decide +kernel
theorem E108_14 {call : jv_F} {l0 l1 : Option Value} {x y : Int32} {st : List Value} {h : jv_H} : jv_ev call 108 14 [l0, l1] (.int y :: .int x :: st) h = if x < y then jv_ev call 108 20 [l0, l1] st h else jv_ev call 108 17 [l0, l1] st h := je_icmp D108_14 (by decide) rfl rfl
theorem D108_17 : decode (jt_code 108) 17 = .ok (.bipush 7, 2) := by decide +kernel
theorem E108_17 {call : jv_F} {l0 l1 : Option Value}  {st : List Value} {h : jv_H} : jv_ev call 108 17 [l0, l1] st h = jv_ev call 108 19 [l0, l1] (.int (nI 7) :: st) h := je_bipush D108_17 rfl (by decide)
theorem D108_19 : decode (jt_code 108) 19 = .ok (.ireturn, 1) := by decide +kernel
theorem E108_19 {call : jv_F} {l0 l1 : Option Value} {v : Int32} {h : jv_H} : jv_ev call 108 19 [l0, l1] [.int v] h = some (some (.int v), h) := je_iret (ty := .int) D108_19 rfl rfl rfl
theorem D108_20 : decode (jt_code 108) 20 = .ok (.aload_n 0, 1) := by decide +kernel
theorem E108_20 {call : jv_F} {l1 : Option Value} {a : Nat} {st : List Value} {h : jv_H} : jv_ev call 108 20 [some (.ref a), l1] st h = jv_ev call 108 21 [some (.ref a), l1] (.ref a :: st) h := je_aload_n (r := some a) D108_20 rfl rfl
theorem D108_21 : decode (jt_code 108) 21 = .ok (.getfield 36, 3) := by decide +kernel
theorem E108_21 {call : jv_F} {l0 l1 : Option Value} {a : Nat} {st : List Value} {h : jv_H} (hs : (jv_gf h a 4 9).isSome = true) : jv_ev call 108 21 [l0, l1] (.ref a :: st) h = jv_ev call 108 24 [l0, l1] ((jv_gf h a 4 9).getD .null :: st) h := by
  obtain ⟨v, hv⟩ := Option.isSome_iff_exists.mp hs
  rw [hv]
  exact je_get D108_21 rfl (by decide) hv
theorem D108_24 : decode (jt_code 108) 24 = .ok (.aload_n 0, 1) := by decide +kernel
theorem E108_24 {call : jv_F} {l1 : Option Value} {a : Nat} {st : List Value} {h : jv_H} : jv_ev call 108 24 [some (.ref a), l1] st h = jv_ev call 108 25 [some (.ref a), l1] (.ref a :: st) h := je_aload_n (r := some a) D108_24 rfl rfl
theorem D108_25 : decode (jt_code 108) 25 = .ok (.getfield 39, 3) := by decide +kernel
theorem E108_25 {call : jv_F} {l0 l1 : Option Value} {a : Nat} {st : List Value} {h : jv_H} (hs : (jv_gf h a 4 10).isSome = true) : jv_ev call 108 25 [l0, l1] (.ref a :: st) h = jv_ev call 108 28 [l0, l1] ((jv_gf h a 4 10).getD .null :: st) h := by
  obtain ⟨v, hv⟩ := Option.isSome_iff_exists.mp hs
  rw [hv]
  exact je_get D108_25 rfl (by decide) hv
theorem D108_28 : decode (jt_code 108) 28 = .ok (.iload_n 1, 1) := by decide +kernel
theorem E108_28 {call : jv_F} {l0 : Option Value} {x : Int32} {st : List Value} {h : jv_H} : jv_ev call 108 28 [l0, some (.int x)] st h = jv_ev call 108 29 [l0, some (.int x)] (.int x :: st) h := je_iload_n D108_28 rfl rfl
theorem D108_29 : decode (jt_code 108) 29 = .ok (.iastore, 1) := by decide +kernel
theorem E108_29 {call : jv_F} {l0 l1 : Option Value} {a : Nat} {j : Int32} {x : Int32} {st : List Value} {h : jv_H} (hs : (jv_as h a .int j (.int x)).isSome = true) : jv_ev call 108 29 [l0, l1] (.int x :: .int j :: .ref a :: st) h = jv_ev call 108 30 [l0, l1] st ((jv_as h a .int j (.int x)).getD h) := by
  obtain ⟨h', hv⟩ := Option.isSome_iff_exists.mp hs
  rw [hv]
  exact je_iast D108_29 rfl hv
theorem D108_30 : decode (jt_code 108) 30 = .ok (.aload_n 0, 1) := by decide +kernel
theorem E108_30 {call : jv_F} {l1 : Option Value} {a : Nat} {st : List Value} {h : jv_H} : jv_ev call 108 30 [some (.ref a), l1] st h = jv_ev call 108 31 [some (.ref a), l1] (.ref a :: st) h := je_aload_n (r := some a) D108_30 rfl rfl
theorem D108_31 : decode (jt_code 108) 31 = .ok (.dup, 1) := by decide +kernel
theorem E108_31 {call : jv_F} {l0 l1 : Option Value} {a : Nat} {st : List Value} {h : jv_H} : jv_ev call 108 31 [l0, l1] (.ref a :: st) h = jv_ev call 108 32 [l0, l1] (.ref a :: .ref a :: st) h := je_dup D108_31 rfl rfl
theorem E108_31i {call : jv_F} {l0 l1 : Option Value} {x : Int32} {st : List Value} {h : jv_H} : jv_ev call 108 31 [l0, l1] (.int x :: st) h = jv_ev call 108 32 [l0, l1] (.int x :: .int x :: st) h := je_dup D108_31 rfl rfl
theorem D108_32 : decode (jt_code 108) 32 = .ok (.getfield 39, 3) := by decide +kernel
theorem E108_32 {call : jv_F} {l0 l1 : Option Value} {a : Nat} {st : List Value} {h : jv_H} (hs : (jv_gf h a 4 10).isSome = true) : jv_ev call 108 32 [l0, l1] (.ref a :: st) h = jv_ev call 108 35 [l0, l1] ((jv_gf h a 4 10).getD .null :: st) h := by
  obtain ⟨v, hv⟩ := Option.isSome_iff_exists.mp hs
  rw [hv]
  exact je_get D108_32 rfl (by decide) hv
theorem D108_35 : decode (jt_code 108) 35 = .ok (.iconst 1, 1) := by decide +kernel
theorem E108_35 {call : jv_F} {l0 l1 : Option Value}  {st : List Value} {h : jv_H} : jv_ev call 108 35 [l0, l1] st h = jv_ev call 108 36 [l0, l1] (.int (nI 1) :: st) h := je_iconst D108_35 rfl (by decide)
theorem D108_36 : decode (jt_code 108) 36 = .ok (.iadd, 1) := by decide +kernel
theorem E108_36 {call : jv_F} {l0 l1 : Option Value} {x y : Int32} {st : List Value} {h : jv_H} : jv_ev call 108 36 [l0, l1] (.int y :: .int x :: st) h = jv_ev call 108 37 [l0, l1] (.int (x + y) :: st) h := je_b2 (f := fun x y => x + y) D108_36 rfl (fun _ => rfl)
theorem D108_37 : decode (jt_code 108) 37 = .ok (.putfield 39, 3) := by decide +kernel
theorem E108_37 {call : jv_F} {l0 l1 : Option Value} {a : Nat} {v : Value} {st : List Value} {h : jv_H} (hs : (jv_pf h a 4 10 v).isSome = true) : jv_ev call 108 37 [l0, l1] (v :: .ref a :: st) h = jv_ev call 108 40 [l0, l1] st ((jv_pf h a 4 10 v).getD h) := by
  obtain ⟨h', hv⟩ := Option.isSome_iff_exists.mp hs
  rw [hv]
  exact je_put D108_37 rfl (by decide) (by decide) hv
theorem D108_40 : decode (jt_code 108) 40 = .ok (.iconst 0, 1) := by decide +kernel
theorem E108_40 {call : jv_F} {l0 l1 : Option Value}  {st : List Value} {h : jv_H} : jv_ev call 108 40 [l0, l1] st h = jv_ev call 108 41 [l0, l1] (.int (nI 0) :: st) h := je_iconst D108_40 rfl (by decide)
theorem D108_41 : decode (jt_code 108) 41 = .ok (.ireturn, 1) := by decide +kernel
theorem E108_41 {call : jv_F} {l0 l1 : Option Value} {v : Int32} {h : jv_H} : jv_ev call 108 41 [l0, l1] [.int v] h = some (some (.int v), h) := je_iret (ty := .int) D108_41 rfl rfl rfl
/-! method 109: DrumMachine$Job.printNumber -/
theorem N109 {d : Nat} {b : Nat} {h : jv_H} : jv_run (d + 1) 109 [.ref b] h = jv_ev (jv_run d) 109 0 [some (.ref b), none, none, none, none, none, none] [] h := jv_run_eq (Nat.le_of_ble_eq_true rfl) rfl
theorem D109_0 : decode (jt_code 109) 0 = .ok (.aload_n 0, 1) := by decide +kernel
theorem E109_0 {call : jv_F} {l1 l2 l3 l4 l5 l6 : Option Value} {a : Nat} {st : List Value} {h : jv_H} : jv_ev call 109 0 [some (.ref a), l1, l2, l3, l4, l5, l6] st h = jv_ev call 109 1 [some (.ref a), l1, l2, l3, l4, l5, l6] (.ref a :: st) h := je_aload_n (r := some a) D109_0 rfl rfl
theorem D109_1 : decode (jt_code 109) 1 = .ok (.getfield 9, 3) := by decide +kernel
theorem E109_1 {call : jv_F} {l0 l1 l2 l3 l4 l5 l6 : Option Value} {a : Nat} {st : List Value} {h : jv_H} (hs : (jv_gf h a 4 2).isSome = true) : jv_ev call 109 1 [l0, l1, l2, l3, l4, l5, l6] (.ref a :: st) h = jv_ev call 109 4 [l0, l1, l2, l3, l4, l5, l6] ((jv_gf h a 4 2).getD .null :: st) h := by
  obtain ⟨v, hv⟩ := Option.isSome_iff_exists.mp hs
  rw [hv]
  exact je_get D109_1 rfl (by decide) hv
theorem D109_4 : decode (jt_code 109) 4 = .ok (.invokestatic 169, 3) := by decide +kernel
theorem E109_4 {call : jv_F} {l0 l1 l2 l3 l4 l5 l6 : Option Value} {v0 : Value}  {st : List Value} {h : jv_H} (hw : jv_wide st = true) (hc : (call 155 [v0] h).isSome = true) : jv_ev call 109 4 [l0, l1, l2, l3, l4, l5, l6] (v0 :: st) h = jv_ev call 109 7 [l0, l1, l2, l3, l4, l5, l6] ((((call 155 [v0] h).getD (none, h)).1).toList ++ st) ((call 155 [v0] h).getD (none, h)).2 := by
  obtain ⟨⟨r, h'⟩, hv⟩ := Option.isSome_iff_exists.mp hc
  rw [hv]
  exact je_stat (y := 155) (as := [v0]) D109_4 rfl (by decide) (by decide) rfl hw hv
theorem D109_7 : decode (jt_code 109) 7 = .ok (.lstore_n 1, 1) := by decide +kernel
theorem E109_7 {call : jv_F} {l0 l1 l2 l3 l4 l5 l6 : Option Value} {x : Int64} {st : List Value} {h : jv_H} (hk : ¬ jv_is2 (some l0) = true) : jv_ev call 109 7 [l0, l1, l2, l3, l4, l5, l6] (.long x :: st) h = jv_ev call 109 8 [l0, some (.long x), none, l3, l4, l5, l6] st h := je_lstore_n D109_7 rfl (Nat.le_of_ble_eq_true rfl) (by show jv_st2 _ 1 _ = _; simp only [jv_st2, jv_kill, List.getElem?_cons_succ, List.getElem?_cons_zero, hk, if_false]; rfl)
theorem D109_8 : decode (jt_code 109) 8 = .ok (.aload_n 0, 1) := by decide +kernel
theorem E109_8 {call : jv_F} {l1 l2 l3 l4 l5 l6 : Option Value} {a : Nat} {st : List Value} {h : jv_H} : jv_ev call 109 8 [some (.ref a), l1, l2, l3, l4, l5, l6] st h = jv_ev call 109 9 [some (.ref a), l1, l2, l3, l4, l5, l6] (.ref a :: st) h := je_aload_n (r := some a) D109_8 rfl rfl
theorem D109_9 : decode (jt_code 109) 9 = .ok (.getfield 9, 3) := by decide +kernel
theorem E109_9 {call : jv_F} {l0 l1 l2 l3 l4 l5 l6 : Option Value} {a : Nat} {st : List Value} {h : jv_H} (hs : (jv_gf h a 4 2).isSome = true) : jv_ev call 109 9 [l0, l1, l2, l3, l4, l5, l6] (.ref a :: st) h = jv_ev call 109 12 [l0, l1, l2, l3, l4, l5, l6] ((jv_gf h a 4 2).getD .null :: st) h := by
  obtain ⟨v, hv⟩ := Option.isSome_iff_exists.mp hs
  rw [hv]
  exact je_get D109_9 rfl (by decide) hv
theorem D109_12 : decode (jt_code 109) 12 = .ok (.lconst 0, 1) := by decide +kernel
theorem E109_12 {call : jv_F} {l0 l1 l2 l3 l4 l5 l6 : Option Value}  {st : List Value} {h : jv_H} : jv_ev call 109 12 [l0, l1, l2, l3, l4, l5, l6] st h = jv_ev call 109 13 [l0, l1, l2, l3, l4, l5, l6] (.long 0 :: st) h := je_lconst D109_12 rfl (by decide)
theorem D109_13 : decode (jt_code 109) 13 = .ok (.lcmp, 1) := by decide +kernel
theorem E109_13 {call : jv_F} {l0 l1 l2 l3 l4 l5 l6 : Option Value} {x y : Int64} {st : List Value} {h : jv_H} : jv_ev call 109 13 [l0, l1, l2, l3, l4, l5, l6] (.long y :: .long x :: st) h = jv_ev call 109 14 [l0, l1, l2, l3, l4, l5, l6] (.int (lg_cmp x y) :: st) h := je_lcmp D109_13 rfl
theorem D109_14 : decode (jt_code 109) 14 = .ok (.ifCond .ge 12, 3) := by decide +kernel
theorem E109_14 {call : jv_F} {l0 l1 l2 l3 l4 l5 l6 : Option Value} {x : Int32} {st : List Value} {h : jv_H} : jv_ev call 109 14 [l0, l1, l2, l3, l4, l5, l6] (.int x :: st) h = if 0 ≤ x then jv_ev call 109 26 [l0, l1, l2, l3, l4, l5, l6] st h else jv_ev call 109 17 [l0, l1, l2, l3, l4, l5, l6] st h := je_ifc D109_14 (by decide) rfl rfl
theorem D109_17 : decode (jt_code 109) 17 = .ok (.aload_n 0, 1) := by decide +kernel
theorem E109_17 {call : jv_F} {l1 l2 l3 l4 l5 l6 : Option Value} {a : Nat} {st : List Value} {h : jv_H} : jv_ev call 109 17 [some (.ref a), l1, l2, l3, l4, l5, l6] st h = jv_ev call 109 18 [some (.ref a), l1, l2, l3, l4, l5, l6] (.ref a :: st) h := je_aload_n (r := some a) D109_17 rfl rfl
theorem D109_18 : decode (jt_code 109) 18 = .ok (.bipush 45, 2) := by decide +kernel
theorem E109_18 {call : jv_F} {l0 l1 l2 l3 l4 l5 l6 : Option Value}  {st : List Value} {h : jv_H} : jv_ev call 109 18 [l0, l1, l2, l3, l4, l5, l6] st h = jv_ev call 109 20 [l0, l1, l2, l3, l4, l5, l6] (.int (nI 45) :: st) h := je_bipush D109_18 rfl (by decide)
theorem D109_20 : decode (jt_code 109) 20 = .ok (.invokevirtual 148, 3) := by decide +kernel
theorem E109_20 {call : jv_F} {l0 l1 l2 l3 l4 l5 l6 : Option Value} {b : Nat} {v0 : Value}  {st : List Value} {h : jv_H} (hw : jv_wide st = true) (hcl : jv_cl h b = some 4) (hc : (call 108 [.ref b, v0] h).isSome = true) : jv_ev call 109 20 [l0, l1, l2, l3, l4, l5, l6] (v0 :: .ref b :: st) h = jv_ev call 109 23 [l0, l1, l2, l3, l4, l5, l6] ((((call 108 [.ref b, v0] h).getD (none, h)).1).toList ++ st) ((call 108 [.ref b, v0] h).getD (none, h)).2 := by
  obtain ⟨⟨r, h'⟩, hv⟩ := Option.isSome_iff_exists.mp hc
  rw [hv]
  exact je_virt (y := 108) (as := [v0]) D109_20 rfl (by decide) (by decide) rfl hcl hw hv
theorem D109_23 : decode (jt_code 109) 23 = .ok (.goto 4, 3) := by decide +kernel
theorem E109_23 {call : jv_F} {l0 l1 l2 l3 l4 l5 l6 : Option Value}  {st : List Value} {h : jv_H} : jv_ev call 109 23 [l0, l1, l2, l3, l4, l5, l6] st h = jv_ev call 109 27 [l0, l1, l2, l3, l4, l5, l6] st h := je_goto D109_23 (by decide)
theorem D109_26 : decode (jt_code 109) 26 = .ok (.iconst 0, 1) := by decide +kernel
theorem E109_26 {call : jv_F} {l0 l1 l2 l3 l4 l5 l6 : Option Value}  {st : List Value} {h : jv_H} : jv_ev call 109 26 [l0, l1, l2, l3, l4, l5, l6] st h = jv_ev call 109 27 [l0, l1, l2, l3, l4, l5, l6] (.int (nI 0) :: st) h := je_iconst D109_26 rfl (by decide)
theorem D109_27 : decode (jt_code 109) 27 = .ok (.istore_n 3, 1) := by decide +kernel
theorem E109_27 {call : jv_F} {l0 l1 l2 l3 l4 l5 l6 : Option Value} {x : Int32} {st : List Value} {h : jv_H} (hk : ¬ jv_is2 (some l2) = true) : jv_ev call 109 27 [l0, l1, l2, l3, l4, l5, l6] (.int x :: st) h = jv_ev call 109 28 [l0, l1, l2, some (.int x), l4, l5, l6] st h := je_istore_n D109_27 rfl (Nat.le_of_ble_eq_true rfl) (by show jv_st1 _ 3 _ = _; simp only [jv_st1, jv_kill, List.getElem?_cons_succ, List.getElem?_cons_zero, hk, if_false]; rfl)
theorem D109_28 : decode (jt_code 109) 28 = .ok (.lconst 1, 1) := by decide +kernel
theorem E109_28 {call : jv_F} {l0 l1 l2 l3 l4 l5 l6 : Option Value}  {st : List Value} {h : jv_H} : jv_ev call 109 28 [l0, l1, l2, l3, l4, l5, l6] st h = jv_ev call 109 29 [l0, l1, l2, l3, l4, l5, l6] (.long 1 :: st) h := je_lconst D109_28 rfl (by decide)
theorem D109_29 : decode (jt_code 109) 29 = .ok (.lstore 4, 2) := by decide +kernel
theorem E109_29 {call : jv_F} {l0 l1 l2 l3 l4 l5 l6 : Option Value} {x : Int64} {st : List Value} {h : jv_H} (hk : ¬ jv_is2 (some l3) = true) : jv_ev call 109 29 [l0, l1, l2, l3, l4, l5, l6] (.long x :: st) h = jv_ev call 109 31 [l0, l1, l2, l3, some (.long x), none, l6] st h := je_lstore D109_29 rfl (Nat.le_of_ble_eq_true rfl) (by show jv_st2 _ 4 _ = _; simp only [jv_st2, jv_kill, List.getElem?_cons_succ, List.getElem?_cons_zero, hk, if_false]; rfl)
theorem D109_31 : decode (jt_code 109) 31 = .ok (.iconst 0, 1) := by decide +kernel
theorem E109_31 {call : jv_F} {l0 l1 l2 l3 l4 l5 l6 : Option Value}  {st : List Value} {h : jv_H} : jv_ev call 109 31 [l0, l1, l2, l3, l4, l5, l6] st h = jv_ev call 109 32 [l0, l1, l2, l3, l4, l5, l6] (.int (nI 0) :: st) h := je_iconst D109_31 rfl (by decide)
theorem D109_32 : decode (jt_code 109) 32 = .ok (.istore 6, 2) := by decide +kernel
theorem E109_32 {call : jv_F} {l0 l1 l2 l3 l4 l5 l6 : Option Value} {x : Int32} {st : List Value} {h : jv_H} (hk : ¬ jv_is2 (some l5) = true) : jv_ev call 109 32 [l0, l1, l2, l3, l4, l5, l6] (.int x :: st) h = jv_ev call 109 34 [l0, l1, l2, l3, l4, l5, some (.int x)] st h := je_istore D109_32 rfl (Nat.le_of_ble_eq_true rfl) (by show jv_st1 _ 6 _ = _; simp only [jv_st1, jv_kill, List.getElem?_cons_succ, List.getElem?_cons_zero, hk, if_false]; rfl)
theorem D109_34 : decode (jt_code 109) 34 = .ok (.iload 6, 2) := by decide +kernel
theorem E109_34 {call : jv_F} {l0 l1 l2 l3 l4 l5 : Option Value} {x : Int32} {st : List Value} {h : jv_H} : jv_ev call 109 34 [l0, l1, l2, l3, l4, l5, some (.int x)] st h = jv_ev call 109 36 [l0, l1, l2, l3, l4, l5, some (.int x)] (.int x :: st) h := je_iload D109_34 rfl rfl
theorem D109_36 : decode (jt_code 109) 36 = .ok (.bipush 15, 2) := by decide +kernel
theorem E109_36 {call : jv_F} {l0 l1 l2 l3 l4 l5 l6 : Option Value}  {st : List Value} {h : jv_H} : jv_ev call 109 36 [l0, l1, l2, l3, l4, l5, l6] st h = jv_ev call 109 38 [l0, l1, l2, l3, l4, l5, l6] (.int (nI 15) :: st) h := je_bipush D109_36 rfl (by decide)
theorem D109_38 : decode (jt_code 109) 38 = .ok (.if_icmp .ge 28, 3) := by decide +kernel
theorem E109_38 {call : jv_F} {l0 l1 l2 l3 l4 l5 l6 : Option Value} {x y : Int32} {st : List Value} {h : jv_H} : jv_ev call 109 38 [l0, l1, l2, l3, l4, l5, l6] (.int y :: .int x :: st) h = if y ≤ x then jv_ev call 109 66 [l0, l1, l2, l3, l4, l5, l6] st h else jv_ev call 109 41 [l0, l1, l2, l3, l4, l5, l6] st h := je_icmp D109_38 (by decide) rfl rfl
theorem D109_41 : decode (jt_code 109) 41 = .ok (.lload 4, 2) := by decide +kernel
theorem E109_41 {call : jv_F} {l0 l1 l2 l3 l5 l6 : Option Value} {x : Int64} {st : List Value} {h : jv_H} : jv_ev call 109 41 [l0, l1, l2, l3, some (.long x), l5, l6] st h = jv_ev call 109 43 [l0, l1, l2, l3, some (.long x), l5, l6] (.long x :: st) h := je_lload D109_41 rfl rfl
theorem D109_43 : decode (jt_code 109) 43 = .ok (.lload_n 1, 1) := by decide +kernel
theorem E109_43 {call : jv_F} {l0 l2 l3 l4 l5 l6 : Option Value} {x : Int64} {st : List Value} {h : jv_H} : jv_ev call 109 43 [l0, some (.long x), l2, l3, l4, l5, l6] st h = jv_ev call 109 44 [l0, some (.long x), l2, l3, l4, l5, l6] (.long x :: st) h := je_lload_n D109_43 rfl rfl
theorem D109_44 : decode (jt_code 109) 44 = .ok (.ldc2_w 172, 3) := by decide +kernel
theorem E109_44 {call : jv_F} {l0 l1 l2 l3 l4 l5 l6 : Option Value}  {st : List Value} {h : jv_H} : jv_ev call 109 44 [l0, l1, l2, l3, l4, l5, l6] st h = jv_ev call 109 47 [l0, l1, l2, l3, l4, l5, l6] (.long 10 :: st) h := je_ldc2 D109_44 rfl (by decide)
theorem D109_47 : decode (jt_code 109) 47 = .ok (.ldiv, 1) := by decide +kernel
theorem E109_47 {call : jv_F} {l0 l1 l2 l3 l4 l5 l6 : Option Value} {x y : Int64} {st : List Value} {h : jv_H} (hy : ¬ y = 0) : jv_ev call 109 47 [l0, l1, l2, l3, l4, l5, l6] (.long y :: .long x :: st) h = jv_ev call 109 48 [l0, l1, l2, l3, l4, l5, l6] (.long (x / y) :: st) h := je_ldiv D109_47 rfl hy
theorem D109_48 : decode (jt_code 109) 48 = .ok (.lcmp, 1) := by decide +kernel
theorem E109_48 {call : jv_F} {l0 l1 l2 l3 l4 l5 l6 : Option Value} {x y : Int64} {st : List Value} {h : jv_H} : jv_ev call 109 48 [l0, l1, l2, l3, l4, l5, l6] (.long y :: .long x :: st) h = jv_ev call 109 49 [l0, l1, l2, l3, l4, l5, l6] (.int (lg_cmp x y) :: st) h := je_lcmp D109_48 rfl
theorem D109_49 : decode (jt_code 109) 49 = .ok (.ifCond .gt 17, 3) := by decide +kernel
theorem E109_49 {call : jv_F} {l0 l1 l2 l3 l4 l5 l6 : Option Value} {x : Int32} {st : List Value} {h : jv_H} : jv_ev call 109 49 [l0, l1, l2, l3, l4, l5, l6] (.int x :: st) h = if 0 < x then jv_ev call 109 66 [l0, l1, l2, l3, l4, l5, l6] st h else jv_ev call 109 52 [l0, l1, l2, l3, l4, l5, l6] st h := je_ifc D109_49 (by decide) rfl rfl
theorem D109_52 : decode (jt_code 109) 52 = .ok (.lload 4, 2) := by decide +kernel
theorem E109_52 {call : jv_F} {l0 l1 l2 l3 l5 l6 : Option Value} {x : Int64} {st : List Value} {h : jv_H} : jv_ev call 109 52 [l0, l1, l2, l3, some (.long x), l5, l6] st h = jv_ev call 109 54 [l0, l1, l2, l3, some (.long x), l5, l6] (.long x :: st) h := je_lload D109_52 rfl rfl
theorem D109_54 : decode (jt_code 109) 54 = .ok (.ldc2_w 172, 3) := by decide +kernel
theorem E109_54 {call : jv_F} {l0 l1 l2 l3 l4 l5 l6 : Option Value}  {st : List Value} {h : jv_H} : jv_ev call 109 54 [l0, l1, l2, l3, l4, l5, l6] st h = jv_ev call 109 57 [l0, l1, l2, l3, l4, l5, l6] (.long 10 :: st) h := je_ldc2 D109_54 rfl (by decide)
theorem D109_57 : decode (jt_code 109) 57 = .ok (.lmul, 1) := by decide +kernel
theorem E109_57 {call : jv_F} {l0 l1 l2 l3 l4 l5 l6 : Option Value} {x y : Int64} {st : List Value} {h : jv_H} : jv_ev call 109 57 [l0, l1, l2, l3, l4, l5, l6] (.long y :: .long x :: st) h = jv_ev call 109 58 [l0, l1, l2, l3, l4, l5, l6] (.long (x * y) :: st) h := je_l2 (f := fun x y => x * y) D109_57 rfl (fun _ => rfl)
theorem D109_58 : decode (jt_code 109) 58 = .ok (.lstore 4, 2) := by decide +kernel
theorem E109_58 {call : jv_F} {l0 l1 l2 l3 l4 l5 l6 : Option Value} {x : Int64} {st : List Value} {h : jv_H} (hk : ¬ jv_is2 (some l3) = true) : jv_ev call 109 58 [l0, l1, l2, l3, l4, l5, l6] (.long x :: st) h = jv_ev call 109 60 [l0, l1, l2, l3, some (.long x), none, l6] st h := je_lstore D109_58 rfl (Nat.le_of_ble_eq_true rfl) (by show jv_st2 _ 4 _ = _; simp only [jv_st2, jv_kill, List.getElem?_cons_succ, List.getElem?_cons_zero, hk, if_false]; rfl)
theorem D109_60 : decode (jt_code 109) 60 = .ok (.iinc 6 1, 3) := by decide +kernel
theorem E109_60 {call : jv_F} {l0 l1 l2 l3 l4 l5 : Option Value} {x : Int32} {st : List Value} {h : jv_H} (hk : ¬ jv_is2 (some l5) = true) : jv_ev call 109 60 [l0, l1, l2, l3, l4, l5, some (.int x)] st h = jv_ev call 109 63 [l0, l1, l2, l3, l4, l5, some (.int (x + (nI 1)))] st h := je_iinc D109_60 rfl rfl (v := x + (nI 1)) (by rfl) (by show jv_st1 _ 6 _ = _; simp only [jv_st1, jv_kill, List.getElem?_cons_succ, List.getElem?_cons_zero, hk, if_false]; rfl)
theorem D109_63 : decode (jt_code 109) 63 = .ok (.goto (-29), 3) := by decide +kernel
theorem E109_63 {call : jv_F} {l0 l1 l2 l3 l4 l5 l6 : Option Value}  {st : List Value} {h : jv_H} : jv_ev call 109 63 [l0, l1, l2, l3, l4, l5, l6] st h = jv_ev call 109 34 [l0, l1, l2, l3, l4, l5, l6] st h := je_goto D109_63 (by decide)
theorem D109_66 : decode (jt_code 109) 66 = .ok (.iconst 0, 1) := by decide +kernel
theorem E109_66 {call : jv_F} {l0 l1 l2 l3 l4 l5 l6 : Option Value}  {st : List Value} {h : jv_H} : jv_ev call 109 66 [l0, l1, l2, l3, l4, l5, l6] st h = jv_ev call 109 67 [l0, l1, l2, l3, l4, l5, l6] (.int (nI 0) :: st) h := je_iconst D109_66 rfl (by decide)
theorem D109_67 : decode (jt_code 109) 67 = .ok (.istore 6, 2) := by decide +kernel
theorem E109_67 {call : jv_F} {l0 l1 l2 l3 l4 l5 l6 : Option Value} {x : Int32} {st : List Value} {h : jv_H} (hk : ¬ jv_is2 (some l5) = true) : jv_ev call 109 67 [l0, l1, l2, l3, l4, l5, l6] (.int x :: st) h = jv_ev call 109 69 [l0, l1, l2, l3, l4, l5, some (.int x)] st h := je_istore D109_67 rfl (Nat.le_of_ble_eq_true rfl) (by show jv_st1 _ 6 _ = _; simp only [jv_st1, jv_kill, List.getElem?_cons_succ, List.getElem?_cons_zero, hk, if_false]; rfl)
theorem D109_69 : decode (jt_code 109) 69 = .ok (.iload 6, 2) := by decide +kernel
theorem E109_69 {call : jv_F} {l0 l1 l2 l3 l4 l5 : Option Value} {x : Int32} {st : List Value} {h : jv_H} : jv_ev call 109 69 [l0, l1, l2, l3, l4, l5, some (.int x)] st h = jv_ev call 109 71 [l0, l1, l2, l3, l4, l5, some (.int x)] (.int x :: st) h := je_iload D109_69 rfl rfl
theorem D109_71 : decode (jt_code 109) 71 = .ok (.bipush 16, 2) := by decide +kernel
theorem E109_71 {call : jv_F} {l0 l1 l2 l3 l4 l5 l6 : Option Value}  {st : List Value} {h : jv_H} : jv_ev call 109 71 [l0, l1, l2, l3, l4, l5, l6] st h = jv_ev call 109 73 [l0, l1, l2, l3, l4, l5, l6] (.int (nI 16) :: st) h := je_bipush D109_71 rfl (by decide)
theorem D109_73 : decode (jt_code 109) 73 = .ok (.if_icmp .ge 47, 3) := by decide +kernel
theorem E109_73 {call : jv_F} {l0 l1 l2 l3 l4 l5 l6 : Option Value} {x y : Int32} {st : List Value} {h : jv_H} : jv_ev call 109 73 [l0, l1, l2, l3, l4, l5, l6] (.int y :: .int x :: st) h = if y ≤ x then jv_ev call 109 120 [l0, l1, l2, l3, l4, l5, l6] st h else jv_ev call 109 76 [l0, l1, l2, l3, l4, l5, l6] st h := je_icmp D109_73 (by decide) rfl rfl
theorem D109_76 : decode (jt_code 109) 76 = .ok (.lload 4, 2) := by decide +kernel
theorem E109_76 {call : jv_F} {l0 l1 l2 l3 l5 l6 : Option Value} {x : Int64} {st : List Value} {h : jv_H} : jv_ev call 109 76 [l0, l1, l2, l3, some (.long x), l5, l6] st h = jv_ev call 109 78 [l0, l1, l2, l3, some (.long x), l5, l6] (.long x :: st) h := je_lload D109_76 rfl rfl
theorem D109_78 : decode (jt_code 109) 78 = .ok (.lconst 0, 1) := by decide +kernel
theorem E109_78 {call : jv_F} {l0 l1 l2 l3 l4 l5 l6 : Option Value}  {st : List Value} {h : jv_H} : jv_ev call 109 78 [l0, l1, l2, l3, l4, l5, l6] st h = jv_ev call 109 79 [l0, l1, l2, l3, l4, l5, l6] (.long 0 :: st) h := je_lconst D109_78 rfl (by decide)
theorem D109_79 : decode (jt_code 109) 79 = .ok (.lcmp, 1) := by decide +kernel
theorem E109_79 {call : jv_F} {l0 l1 l2 l3 l4 l5 l6 : Option Value} {x y : Int64} {st : List Value} {h : jv_H} : jv_ev call 109 79 [l0, l1, l2, l3, l4, l5, l6] (.long y :: .long x :: st) h = jv_ev call 109 80 [l0, l1, l2, l3, l4, l5, l6] (.int (lg_cmp x y) :: st) h := je_lcmp D109_79 rfl
theorem D109_80 : decode (jt_code 109) 80 = .ok (.ifCond .le 40, 3) := by decide +kernel
theorem E109_80 {call : jv_F} {l0 l1 l2 l3 l4 l5 l6 : Option Value} {x : Int32} {st : List Value} {h : jv_H} : jv_ev call 109 80 [l0, l1, l2, l3, l4, l5, l6] (.int x :: st) h = if x ≤ 0 then jv_ev call 109 120 [l0, l1, l2, l3, l4, l5, l6] st h else jv_ev call 109 83 [l0, l1, l2, l3, l4, l5, l6] st h := je_ifc D109_80 (by decide) rfl rfl
theorem D109_83 : decode (jt_code 109) 83 = .ok (.iload_n 3, 1) := by decide +kernel
theorem E109_83 {call : jv_F} {l0 l1 l2 l4 l5 l6 : Option Value} {x : Int32} {st : List Value} {h : jv_H} : jv_ev call 109 83 [l0, l1, l2, some (.int x), l4, l5, l6] st h = jv_ev call 109 84 [l0, l1, l2, some (.int x), l4, l5, l6] (.int x :: st) h := je_iload_n D109_83 rfl rfl
theorem D109_84 : decode (jt_code 109) 84 = .ok (.ifCond .ne 36, 3) := by decide +kernel
theorem E109_84 {call : jv_F} {l0 l1 l2 l3 l4 l5 l6 : Option Value} {x : Int32} {st : List Value} {h : jv_H} : jv_ev call 109 84 [l0, l1, l2, l3, l4, l5, l6] (.int x :: st) h = if ¬ x = 0 then jv_ev call 109 120 [l0, l1, l2, l3, l4, l5, l6] st h else jv_ev call 109 87 [l0, l1, l2, l3, l4, l5, l6] st h := je_ifc D109_84 (by decide) rfl rfl
theorem D109_87 : decode (jt_code 109) 87 = .ok (.aload_n 0, 1) := by decide +kernel
theorem E109_87 {call : jv_F} {l1 l2 l3 l4 l5 l6 : Option Value} {a : Nat} {st : List Value} {h : jv_H} : jv_ev call 109 87 [some (.ref a), l1, l2, l3, l4, l5, l6] st h = jv_ev call 109 88 [some (.ref a), l1, l2, l3, l4, l5, l6] (.ref a :: st) h := je_aload_n (r := some a) D109_87 rfl rfl
theorem D109_88 : decode (jt_code 109) 88 = .ok (.ldc2_w 174, 3) := by decide +kernel
theorem E109_88 {call : jv_F} {l0 l1 l2 l3 l4 l5 l6 : Option Value}  {st : List Value} {h : jv_H} : jv_ev call 109 88 [l0, l1, l2, l3, l4, l5, l6] st h = jv_ev call 109 91 [l0, l1, l2, l3, l4, l5, l6] (.long 48 :: st) h := je_ldc2 D109_88 rfl (by decide)
theorem D109_91 : decode (jt_code 109) 91 = .ok (.lload_n 1, 1) := by decide +kernel
theorem E109_91 {call : jv_F} {l0 l2 l3 l4 l5 l6 : Option Value} {x : Int64} {st : List Value} {h : jv_H} : jv_ev call 109 91 [l0, some (.long x), l2, l3, l4, l5, l6] st h = jv_ev call 109 92 [l0, some (.long x), l2, l3, l4, l5, l6] (.long x :: st) h := je_lload_n D109_91 rfl rfl
theorem D109_92 : decode (jt_code 109) 92 = .ok (.lload 4, 2) := by decide +kernel
theorem E109_92 {call : jv_F} {l0 l1 l2 l3 l5 l6 : Option Value} {x : Int64} {st : List Value} {h : jv_H} : jv_ev call 109 92 [l0, l1, l2, l3, some (.long x), l5, l6] st h = jv_ev call 109 94 [l0, l1, l2, l3, some (.long x), l5, l6] (.long x :: st) h := je_lload D109_92 rfl rfl
theorem D109_94 : decode (jt_code 109) 94 = .ok (.ldiv, 1) := by decide +kernel
theorem E109_94 {call : jv_F} {l0 l1 l2 l3 l4 l5 l6 : Option Value} {x y : Int64} {st : List Value} {h : jv_H} (hy : ¬ y = 0) : jv_ev call 109 94 [l0, l1, l2, l3, l4, l5, l6] (.long y :: .long x :: st) h = jv_ev call 109 95 [l0, l1, l2, l3, l4, l5, l6] (.long (x / y) :: st) h := je_ldiv D109_94 rfl hy
theorem D109_95 : decode (jt_code 109) 95 = .ok (.ladd, 1) := by decide +kernel
theorem E109_95 {call : jv_F} {l0 l1 l2 l3 l4 l5 l6 : Option Value} {x y : Int64} {st : List Value} {h : jv_H} : jv_ev call 109 95 [l0, l1, l2, l3, l4, l5, l6] (.long y :: .long x :: st) h = jv_ev call 109 96 [l0, l1, l2, l3, l4, l5, l6] (.long (x + y) :: st) h := je_l2 (f := fun x y => x + y) D109_95 rfl (fun _ => rfl)
theorem D109_96 : decode (jt_code 109) 96 = .ok (.l2i, 1) := by decide +kernel
theorem E109_96 {call : jv_F} {l0 l1 l2 l3 l4 l5 l6 : Option Value} {x : Int64} {st : List Value} {h : jv_H} : jv_ev call 109 96 [l0, l1, l2, l3, l4, l5, l6] (.long x :: st) h = jv_ev call 109 97 [l0, l1, l2, l3, l4, l5, l6] (.int x.toInt32 :: st) h := je_l2i D109_96 rfl
theorem D109_97 : decode (jt_code 109) 97 = .ok (.invokevirtual 148, 3) := by decide +kernel
theorem E109_97 {call : jv_F} {l0 l1 l2 l3 l4 l5 l6 : Option Value} {b : Nat} {v0 : Value}  {st : List Value} {h : jv_H} (hw : jv_wide st = true) (hcl : jv_cl h b = some 4) (hc : (call 108 [.ref b, v0] h).isSome = true) : jv_ev call 109 97 [l0, l1, l2, l3, l4, l5, l6] (v0 :: .ref b :: st) h = jv_ev call 109 100 [l0, l1, l2, l3, l4, l5, l6] ((((call 108 [.ref b, v0] h).getD (none, h)).1).toList ++ st) ((call 108 [.ref b, v0] h).getD (none, h)).2 := by
  obtain ⟨⟨r, h'⟩, hv⟩ := Option.isSome_iff_exists.mp hc
  rw [hv]
  exact je_virt (y := 108) (as := [v0]) D109_97 rfl (by decide) (by decide) rfl hcl hw hv
theorem D109_100 : decode (jt_code 109) 100 = .ok (.istore_n 3, 1) := by decide +kernel
theorem E109_100 {call : jv_F} {l0 l1 l2 l3 l4 l5 l6 : Option Value} {x : Int32} {st : List Value} {h : jv_H} (hk : ¬ jv_is2 (some l2) = true) : jv_ev call 109 100 [l0, l1, l2, l3, l4, l5, l6] (.int x :: st) h = jv_ev call 109 101 [l0, l1, l2, some (.int x), l4, l5, l6] st h := je_istore_n D109_100 rfl (Nat.le_of_ble_eq_true rfl) (by show jv_st1 _ 3 _ = _; simp only [jv_st1, jv_kill, List.getElem?_cons_succ, List.getElem?_cons_zero, hk, if_false]; rfl)
theorem D109_101 : decode (jt_code 109) 101 = .ok (.lload_n 1, 1) := by decide +kernel
theorem E109_101 {call : jv_F} {l0 l2 l3 l4 l5 l6 : Option Value} {x : Int64} {st : List Value} {h : jv_H} : jv_ev call 109 101 [l0, some (.long x), l2, l3, l4, l5, l6] st h = jv_ev call 109 102 [l0, some (.long x), l2, l3, l4, l5, l6] (.long x :: st) h := je_lload_n D109_101 rfl rfl
theorem D109_102 : decode (jt_code 109) 102 = .ok (.lload 4, 2) := by decide +kernel
theorem E109_102 {call : jv_F} {l0 l1 l2 l3 l5 l6 : Option Value} {x : Int64} {st : List Value} {h : jv_H} : jv_ev call 109 102 [l0, l1, l2, l3, some (.long x), l5, l6] st h = jv_ev call 109 104 [l0, l1, l2, l3, some (.long x), l5, l6] (.long x :: st) h := je_lload D109_102 rfl rfl
theorem D109_104 : decode (jt_code 109) 104 = .ok (.lrem, 1) := by decide +kernel
theorem E109_104 {call : jv_F} {l0 l1 l2 l3 l4 l5 l6 : Option Value} {x y : Int64} {st : List Value} {h : jv_H} (hy : ¬ y = 0) : jv_ev call 109 104 [l0, l1, l2, l3, l4, l5, l6] (.long y :: .long x :: st) h = jv_ev call 109 105 [l0, l1, l2, l3, l4, l5, l6] (.long (x - x / y * y) :: st) h := je_lrem D109_104 rfl hy
theorem D109_105 : decode (jt_code 109) 105 = .ok (.lstore_n 1, 1) := by decide +kernel
theorem E109_105 {call : jv_F} {l0 l1 l2 l3 l4 l5 l6 : Option Value} {x : Int64} {st : List Value} {h : jv_H} (hk : ¬ jv_is2 (some l0) = true) : jv_ev call 109 105 [l0, l1, l2, l3, l4, l5, l6] (.long x :: st) h = jv_ev call 109 106 [l0, some (.long x), none, l3, l4, l5, l6] st h := je_lstore_n D109_105 rfl (Nat.le_of_ble_eq_true rfl) (by show jv_st2 _ 1 _ = _; simp only [jv_st2, jv_kill, List.getElem?_cons_succ, List.getElem?_cons_zero, hk, if_false]; rfl)
theorem D109_106 : decode (jt_code 109) 106 = .ok (.lload 4, 2) := by decide +kernel
theorem E109_106 {call : jv_F} {l0 l1 l2 l3 l5 l6 : Option Value} {x : Int64} {st : List Value} {h : jv_H} : jv_ev call 109 106 [l0, l1, l2, l3, some (.long x), l5, l6] st h = jv_ev call 109 108 [l0, l1, l2, l3, some (.long x), l5, l6] (.long x :: st) h := je_lload D109_106 rfl rfl
theorem D109_108 : decode (jt_code 109) 108 = .ok (.ldc2_w 172, 3) := by decide +kernel
theorem E109_108 {call : jv_F} {l0 l1 l2 l3 l4 l5 l6 : Option Value}  {st : List Value} {h : jv_H} : jv_ev call 109 108 [l0, l1, l2, l3, l4, l5, l6] st h = jv_ev call 109 111 [l0, l1, l2, l3, l4, l5, l6] (.long 10 :: st) h := je_ldc2 D109_108 rfl (by decide)
theorem D109_111 : decode (jt_code 109) 111 = .ok (.ldiv, 1) := by decide +kernel
theorem E109_111 {call : jv_F} {l0 l1 l2 l3 l4 l5 l6 : Option Value} {x y : Int64} {st : List Value} {h : jv_H} (hy : ¬ y = 0) : jv_ev call 109 111 [l0, l1, l2, l3, l4, l5, l6] (.long y :: .long x :: st) h = jv_ev call 109 112 [l0, l1, l2, l3, l4, l5, l6] (.long (x / y) :: st) h := je_ldiv D109_111 rfl hy
theorem D109_112 : decode (jt_code 109) 112 = .ok (.lstore 4, 2) := by decide +kernel
theorem E109_112 {call : jv_F} {l0 l1 l2 l3 l4 l5 l6 : Option Value} {x : Int64} {st : List Value} {h : jv_H} (hk : ¬ jv_is2 (some l3) = true) : jv_ev call 109 112 [l0, l1, l2, l3, l4, l5, l6] (.long x :: st) h = jv_ev call 109 114 [l0, l1, l2, l3, some (.long x), none, l6] st h := je_lstore D109_112 rfl (Nat.le_of_ble_eq_true rfl) (by show jv_st2 _ 4 _ = _; simp only [jv_st2, jv_kill, List.getElem?_cons_succ, List.getElem?_cons_zero, hk, if_false]; rfl)
theorem D109_114 : decode (jt_code 109) 114 = .ok (.iinc 6 1, 3) := by decide +kernel
theorem E109_114 {call : jv_F} {l0 l1 l2 l3 l4 l5 : Option Value} {x : Int32} {st : List Value} {h : jv_H} (hk : ¬ jv_is2 (some l5) = true) : jv_ev call 109 114 [l0, l1, l2, l3, l4, l5, some (.int x)] st h = jv_ev call 109 117 [l0, l1, l2, l3, l4, l5, some (.int (x + (nI 1)))] st h := je_iinc D109_114 rfl rfl (v := x + (nI 1)) (by rfl) (by show jv_st1 _ 6 _ = _; simp only [jv_st1, jv_kill, List.getElem?_cons_succ, List.getElem?_cons_zero, hk, if_false]; rfl)
theorem D109_117 : decode (jt_code 109) 117 = .ok (.goto (-48), 3) := by decide +kernel
theorem E109_117 {call : jv_F} {l0 l1 l2 l3 l4 l5 l6 : Option Value}  {st : List Value} {h : jv_H} : jv_ev call 109 117 [l0, l1, l2, l3, l4, l5, l6] st h = jv_ev call 109 69 [l0, l1, l2, l3, l4, l5, l6] st h := je_goto D109_117 (by decide)
theorem D109_120 : decode (jt_code 109) 120 = .ok (.iload_n 3, 1) := by decide +kernel
theorem E109_120 {call : jv_F} {l0 l1 l2 l4 l5 l6 : Option Value} {x : Int32} {st : List Value} {h : jv_H} : jv_ev call 109 120 [l0, l1, l2, some (.int x), l4, l5, l6] st h = jv_ev call 109 121 [l0, l1, l2, some (.int x), l4, l5, l6] (.int x :: st) h := je_iload_n D109_120 rfl rfl
theorem D109_121 : decode (jt_code 109) 121 = .ok (.ifCond .ne 12, 3) := by decide +kernel
theorem E109_121 {call : jv_F} {l0 l1 l2 l3 l4 l5 l6 : Option Value} {x : Int32} {st : List Value} {h : jv_H} : jv_ev call 109 121 [l0, l1, l2, l3, l4, l5, l6] (.int x :: st) h = if ¬ x = 0 then jv_ev call 109 133 [l0, l1, l2, l3, l4, l5, l6] st h else jv_ev call 109 124 [l0, l1, l2, l3, l4, l5, l6] st h := je_ifc D109_121 (by decide) rfl rfl
theorem D109_124 : decode (jt_code 109) 124 = .ok (.aload_n 0, 1) := by decide +kernel
theorem E109_124 {call : jv_F} {l1 l2 l3 l4 l5 l6 : Option Value} {a : Nat} {st : List Value} {h : jv_H} : jv_ev call 109 124 [some (.ref a), l1, l2, l3, l4, l5, l6] st h = jv_ev call 109 125 [some (.ref a), l1, l2, l3, l4, l5, l6] (.ref a :: st) h := je_aload_n (r := some a) D109_124 rfl rfl
theorem D109_125 : decode (jt_code 109) 125 = .ok (.bipush 10, 2) := by decide +kernel
theorem E109_125 {call : jv_F} {l0 l1 l2 l3 l4 l5 l6 : Option Value}  {st : List Value} {h : jv_H} : jv_ev call 109 125 [l0, l1, l2, l3, l4, l5, l6] st h = jv_ev call 109 127 [l0, l1, l2, l3, l4, l5, l6] (.int (nI 10) :: st) h := je_bipush D109_125 rfl (by decide)
theorem D109_127 : decode (jt_code 109) 127 = .ok (.invokevirtual 148, 3) := by decide +kernel
theorem E109_127 {call : jv_F} {l0 l1 l2 l3 l4 l5 l6 : Option Value} {b : Nat} {v0 : Value}  {st : List Value} {h : jv_H} (hw : jv_wide st = true) (hcl : jv_cl h b = some 4) (hc : (call 108 [.ref b, v0] h).isSome = true) : jv_ev call 109 127 [l0, l1, l2, l3, l4, l5, l6] (v0 :: .ref b :: st) h = jv_ev call 109 130 [l0, l1, l2, l3, l4, l5, l6] ((((call 108 [.ref b, v0] h).getD (none, h)).1).toList ++ st) ((call 108 [.ref b, v0] h).getD (none, h)).2 := by
  obtain ⟨⟨r, h'⟩, hv⟩ := Option.isSome_iff_exists.mp hc
  rw [hv]
  exact je_virt (y := 108) (as := [v0]) D109_127 rfl (by decide) (by decide) rfl hcl hw hv
theorem D109_130 : decode (jt_code 109) 130 = .ok (.goto 4, 3) := by decide +kernel
theorem E109_130 {call : jv_F} {l0 l1 l2 l3 l4 l5 l6 : Option Value}  {st : List Value} {h : jv_H} : jv_ev call 109 130 [l0, l1, l2, l3, l4, l5, l6] st h = jv_ev call 109 134 [l0, l1, l2, l3, l4, l5, l6] st h := je_goto D109_130 (by decide)
theorem D109_133 : decode (jt_code 109) 133 = .ok (.iload_n 3, 1) := by decide +kernel
theorem E109_133 {call : jv_F} {l0 l1 l2 l4 l5 l6 : Option Value} {x : Int32} {st : List Value} {h : jv_H} : jv_ev call 109 133 [l0, l1, l2, some (.int x), l4, l5, l6] st h = jv_ev call 109 134 [l0, l1, l2, some (.int x), l4, l5, l6] (.int x :: st) h := je_iload_n D109_133 rfl rfl
theorem D109_134 : decode (jt_code 109) 134 = .ok (.ireturn, 1) := by decide +kernel
theorem E109_134 {call : jv_F} {l0 l1 l2 l3 l4 l5 l6 : Option Value} {v : Int32} {h : jv_H} : jv_ev call 109 134 [l0, l1, l2, l3, l4, l5, l6] [.int v] h = some (some (.int v), h) := je_iret (ty := .int) D109_134 rfl rfl rfl
/-! method 110: DrumMachine$Job.nextByte -/
theorem N110 {d : Nat} {b : Nat} {h : jv_H} : jv_run (d + 1) 110 [.ref b] h = jv_ev (jv_run d) 110 0 [some (.ref b)] [] h := jv_run_eq (Nat.le_of_ble_eq_true rfl) rfl
theorem D110_0 : decode (jt_code 110) 0 = .ok (.aload_n 0, 1) := by decide +kernel
theorem E110_0 {call : jv_F} {a : Nat} {st : List Value} {h : jv_H} : jv_ev call 110 0 [some (.ref a)] st h = jv_ev call 110 1 [some (.ref a)] (.ref a :: st) h := je_aload_n (r := some a) D110_0 rfl rfl
theorem D110_1 : decode (jt_code 110) 1 = .ok (.getfield 33, 3) := by decide +kernel
theorem E110_1 {call : jv_F} {l0 : Option Value} {a : Nat} {st : List Value} {h : jv_H} (hs : (jv_gf h a 4 8).isSome = true) : jv_ev call 110 1 [l0] (.ref a :: st) h = jv_ev call 110 4 [l0] ((jv_gf h a 4 8).getD .null :: st) h := by
  obtain ⟨v, hv⟩ := Option.isSome_iff_exists.mp hs
  rw [hv]
  exact je_get D110_1 rfl (by decide) hv
theorem D110_4 : decode (jt_code 110) 4 = .ok (.ifCond .lt 27, 3) := by decide +kernel
theorem E110_4 {call : jv_F} {l0 : Option Value} {x : Int32} {st : List Value} {h : jv_H} : jv_ev call 110 4 [l0] (.int x :: st) h = if x < 0 then jv_ev call 110 31 [l0] st h else jv_ev call 110 7 [l0] st h := je_ifc D110_4 (by decide) rfl rfl
theorem D110_7 : decode (jt_code 110) 7 = .ok (.aload_n 0, 1) := by decide +kernel
theorem E110_7 {call : jv_F} {a : Nat} {st : List Value} {h : jv_H} : jv_ev call 110 7 [some (.ref a)] st h = jv_ev call 110 8 [some (.ref a)] (.ref a :: st) h := je_aload_n (r := some a) D110_7 rfl rfl
theorem D110_8 : decode (jt_code 110) 8 = .ok (.getfield 33, 3) := by decide +kernel
theorem E110_8 {call : jv_F} {l0 : Option Value} {a : Nat} {st : List Value} {h : jv_H} (hs : (jv_gf h a 4 8).isSome = true) : jv_ev call 110 8 [l0] (.ref a :: st) h = jv_ev call 110 11 [l0] ((jv_gf h a 4 8).getD .null :: st) h := by
  obtain ⟨v, hv⟩ := Option.isSome_iff_exists.mp hs
  rw [hv]
  exact je_get D110_8 rfl (by decide) hv
theorem D110_11 : decode (jt_code 110) 11 = .ok (.aload_n 0, 1) := by decide +kernel
theorem E110_11 {call : jv_F} {a : Nat} {st : List Value} {h : jv_H} : jv_ev call 110 11 [some (.ref a)] st h = jv_ev call 110 12 [some (.ref a)] (.ref a :: st) h := je_aload_n (r := some a) D110_11 rfl rfl
theorem D110_12 : decode (jt_code 110) 12 = .ok (.getfield 79, 3) := by decide +kernel
theorem E110_12 {call : jv_F} {l0 : Option Value} {a : Nat} {st : List Value} {h : jv_H} (hs : (jv_gf h a 4 7).isSome = true) : jv_ev call 110 12 [l0] (.ref a :: st) h = jv_ev call 110 15 [l0] ((jv_gf h a 4 7).getD .null :: st) h := by
  obtain ⟨v, hv⟩ := Option.isSome_iff_exists.mp hs
  rw [hv]
  exact je_get D110_12 rfl (by decide) hv
theorem D110_15 : decode (jt_code 110) 15 = .ok (.arraylength, 1) := by decide +kernel
theorem E110_15 {call : jv_F} {l0 : Option Value} {a : Nat} {st : List Value} {h : jv_H} (hs : (jv_ln h a).isSome = true) : jv_ev call 110 15 [l0] (.ref a :: st) h = jv_ev call 110 16 [l0] (.int (nI ((jv_ln h a).getD 0)) :: st) h := by
  obtain ⟨v, hv⟩ := Option.isSome_iff_exists.mp hs
  rw [hv]
  exact je_alen D110_15 rfl hv
theorem D110_16 : decode (jt_code 110) 16 = .ok (.if_icmp .ge 15, 3) := by decide +kernel
theorem E110_16 {call : jv_F} {l0 : Option Value} {x y : Int32} {st : List Value} {h : jv_H} : jv_ev call 110 16 [l0] (.int y :: .int x :: st) h = if y ≤ x then jv_ev call 110 31 [l0] st h else jv_ev call 110 19 [l0] st h := je_icmp D110_16 (by decide) rfl rfl
theorem D110_19 : decode (jt_code 110) 19 = .ok (.aload_n 0, 1) := by decide +kernel
theorem E110_19 {call : jv_F} {a : Nat} {st : List Value} {h : jv_H} : jv_ev call 110 19 [some (.ref a)] st h = jv_ev call 110 20 [some (.ref a)] (.ref a :: st) h := je_aload_n (r := some a) D110_19 rfl rfl
theorem D110_20 : decode (jt_code 110) 20 = .ok (.getfield 79, 3) := by decide +kernel
theorem E110_20 {call : jv_F} {l0 : Option Value} {a : Nat} {st : List Value} {h : jv_H} (hs : (jv_gf h a 4 7).isSome = true) : jv_ev call 110 20 [l0] (.ref a :: st) h = jv_ev call 110 23 [l0] ((jv_gf h a 4 7).getD .null :: st) h := by
  obtain ⟨v, hv⟩ := Option.isSome_iff_exists.mp hs
  rw [hv]
  exact je_get D110_20 rfl (by decide) hv
theorem D110_23 : decode (jt_code 110) 23 = .ok (.aload_n 0, 1) := by decide +kernel
theorem E110_23 {call : jv_F} {a : Nat} {st : List Value} {h : jv_H} : jv_ev call 110 23 [some (.ref a)] st h = jv_ev call 110 24 [some (.ref a)] (.ref a :: st) h := je_aload_n (r := some a) D110_23 rfl rfl
theorem D110_24 : decode (jt_code 110) 24 = .ok (.getfield 33, 3) := by decide +kernel
theorem E110_24 {call : jv_F} {l0 : Option Value} {a : Nat} {st : List Value} {h : jv_H} (hs : (jv_gf h a 4 8).isSome = true) : jv_ev call 110 24 [l0] (.ref a :: st) h = jv_ev call 110 27 [l0] ((jv_gf h a 4 8).getD .null :: st) h := by
  obtain ⟨v, hv⟩ := Option.isSome_iff_exists.mp hs
  rw [hv]
  exact je_get D110_24 rfl (by decide) hv
theorem D110_27 : decode (jt_code 110) 27 = .ok (.iaload, 1) := by decide +kernel
theorem E110_27 {call : jv_F} {l0 : Option Value} {a : Nat} {j : Int32} {st : List Value} {h : jv_H} (hs : (jv_al h a .int j).isSome = true) : jv_ev call 110 27 [l0] (.int j :: .ref a :: st) h = jv_ev call 110 28 [l0] ((jv_al h a .int j).getD .null :: st) h := by
  obtain ⟨v, hv⟩ := Option.isSome_iff_exists.mp hs
  rw [hv]
  exact je_iald D110_27 rfl hv
theorem D110_28 : decode (jt_code 110) 28 = .ok (.goto 4, 3) := by decide +kernel
theorem E110_28 {call : jv_F} {l0 : Option Value}  {st : List Value} {h : jv_H} : jv_ev call 110 28 [l0] st h = jv_ev call 110 32 [l0] st h := je_goto D110_28 (by decide)
theorem D110_31 : decode (jt_code 110) 31 = .ok (.iconst (-1), 1) := by decide +kernel
theorem E110_31 {call : jv_F} {l0 : Option Value}  {st : List Value} {h : jv_H} : jv_ev call 110 31 [l0] st h = jv_ev call 110 32 [l0] (.int (-1) :: st) h := je_iconst D110_31 rfl (by decide)
theorem D110_32 : decode (jt_code 110) 32 = .ok (.ireturn, 1) := by decide +kernel
theorem E110_32 {call : jv_F} {l0 : Option Value} {v : Int32} {h : jv_H} : jv_ev call 110 32 [l0] [.int v] h = some (some (.int v), h) := je_iret (ty := .int) D110_32 rfl rfl rfl
/-! method 113: DrumMachine$Job.divide -/
theorem N113 {d : Nat} {b : Nat} {a0 : Int64} {a1 : Int32} {h : jv_H} : jv_run (d + 1) 113 [.ref b, .long a0, .int a1] h = jv_ev (jv_run d) 113 0 [some (.ref b), some (.long a0), none, some (.int a1), none, none] [] h := jv_run_eq (Nat.le_of_ble_eq_true rfl) rfl
theorem D113_0 : decode (jt_code 113) 0 = .ok (.ldc2_w 179, 3) := by decide +kernel
theorem E113_0 {call : jv_F} {l0 l1 l2 l3 l4 l5 : Option Value}  {st : List Value} {h : jv_H} : jv_ev call 113 0 [l0, l1, l2, l3, l4, l5] st h = jv_ev call 113 3 [l0, l1, l2, l3, l4, l5] (.long (-140737488355328) :: st) h := je_ldc2 D113_0 rfl (by decide)
theorem D113_3 : decode (jt_code 113) 3 = .ok (.lstore 4, 2) := by decide +kernel
theorem E113_3 {call : jv_F} {l0 l1 l2 l3 l4 l5 : Option Value} {x : Int64} {st : List Value} {h : jv_H} (hk : ¬ jv_is2 (some l3) = true) : jv_ev call 113 3 [l0, l1, l2, l3, l4, l5] (.long x :: st) h = jv_ev call 113 5 [l0, l1, l2, l3, some (.long x), none] st h := je_lstore D113_3 rfl (Nat.le_of_ble_eq_true rfl) (by show jv_st2 _ 4 _ = _; simp only [jv_st2, jv_kill, List.getElem?_cons_succ, List.getElem?_cons_zero, hk, if_false]; rfl)
theorem D113_5 : decode (jt_code 113) 5 = .ok (.lload_n 1, 1) := by decide +kernel
theorem E113_5 {call : jv_F} {l0 l2 l3 l4 l5 : Option Value} {x : Int64} {st : List Value} {h : jv_H} : jv_ev call 113 5 [l0, some (.long x), l2, l3, l4, l5] st h = jv_ev call 113 6 [l0, some (.long x), l2, l3, l4, l5] (.long x :: st) h := je_lload_n D113_5 rfl rfl
theorem D113_6 : decode (jt_code 113) 6 = .ok (.lconst 0, 1) := by decide +kernel
theorem E113_6 {call : jv_F} {l0 l1 l2 l3 l4 l5 : Option Value}  {st : List Value} {h : jv_H} : jv_ev call 113 6 [l0, l1, l2, l3, l4, l5] st h = jv_ev call 113 7 [l0, l1, l2, l3, l4, l5] (.long 0 :: st) h := je_lconst D113_6 rfl (by decide)
theorem D113_7 : decode (jt_code 113) 7 = .ok (.lcmp, 1) := by decide +kernel
theorem E113_7 {call : jv_F} {l0 l1 l2 l3 l4 l5 : Option Value} {x y : Int64} {st : List Value} {h : jv_H} : jv_ev call 113 7 [l0, l1, l2, l3, l4, l5] (.long y :: .long x :: st) h = jv_ev call 113 8 [l0, l1, l2, l3, l4, l5] (.int (lg_cmp x y) :: st) h := je_lcmp D113_7 rfl
theorem D113_8 : decode (jt_code 113) 8 = .ok (.ifCond .eq 20, 3) := by decide +kernel
theorem E113_8 {call : jv_F} {l0 l1 l2 l3 l4 l5 : Option Value} {x : Int32} {st : List Value} {h : jv_H} : jv_ev call 113 8 [l0, l1, l2, l3, l4, l5] (.int x :: st) h = if x = 0 then jv_ev call 113 28 [l0, l1, l2, l3, l4, l5] st h else jv_ev call 113 11 [l0, l1, l2, l3, l4, l5] st h := je_ifc D113_8 (by decide) rfl rfl
theorem D113_11 : decode (jt_code 113) 11 = .ok (.lload_n 1, 1) := by decide +kernel
theorem E113_11 {call : jv_F} {l0 l2 l3 l4 l5 : Option Value} {x : Int64} {st : List Value} {h : jv_H} : jv_ev call 113 11 [l0, some (.long x), l2, l3, l4, l5] st h = jv_ev call 113 12 [l0, some (.long x), l2, l3, l4, l5] (.long x :: st) h := je_lload_n D113_11 rfl rfl
theorem D113_12 : decode (jt_code 113) 12 = .ok (.lload 4, 2) := by decide +kernel
theorem E113_12 {call : jv_F} {l0 l1 l2 l3 l5 : Option Value} {x : Int64} {st : List Value} {h : jv_H} : jv_ev call 113 12 [l0, l1, l2, l3, some (.long x), l5] st h = jv_ev call 113 14 [l0, l1, l2, l3, some (.long x), l5] (.long x :: st) h := je_lload D113_12 rfl rfl
theorem D113_14 : decode (jt_code 113) 14 = .ok (.lcmp, 1) := by decide +kernel
theorem E113_14 {call : jv_F} {l0 l1 l2 l3 l4 l5 : Option Value} {x y : Int64} {st : List Value} {h : jv_H} : jv_ev call 113 14 [l0, l1, l2, l3, l4, l5] (.long y :: .long x :: st) h = jv_ev call 113 15 [l0, l1, l2, l3, l4, l5] (.int (lg_cmp x y) :: st) h := je_lcmp D113_14 rfl
theorem D113_15 : decode (jt_code 113) 15 = .ok (.ifCond .eq 13, 3) := by decide +kernel
theorem E113_15 {call : jv_F} {l0 l1 l2 l3 l4 l5 : Option Value} {x : Int32} {st : List Value} {h : jv_H} : jv_ev call 113 15 [l0, l1, l2, l3, l4, l5] (.int x :: st) h = if x = 0 then jv_ev call 113 28 [l0, l1, l2, l3, l4, l5] st h else jv_ev call 113 18 [l0, l1, l2, l3, l4, l5] st h := je_ifc D113_15 (by decide) rfl rfl
theorem D113_18 : decode (jt_code 113) 18 = .ok (.aload_n 0, 1) := by decide +kernel
theorem E113_18 {call : jv_F} {l1 l2 l3 l4 l5 : Option Value} {a : Nat} {st : List Value} {h : jv_H} : jv_ev call 113 18 [some (.ref a), l1, l2, l3, l4, l5] st h = jv_ev call 113 19 [some (.ref a), l1, l2, l3, l4, l5] (.ref a :: st) h := je_aload_n (r := some a) D113_18 rfl rfl
theorem D113_19 : decode (jt_code 113) 19 = .ok (.getfield 9, 3) := by decide +kernel
theorem E113_19 {call : jv_F} {l0 l1 l2 l3 l4 l5 : Option Value} {a : Nat} {st : List Value} {h : jv_H} (hs : (jv_gf h a 4 2).isSome = true) : jv_ev call 113 19 [l0, l1, l2, l3, l4, l5] (.ref a :: st) h = jv_ev call 113 22 [l0, l1, l2, l3, l4, l5] ((jv_gf h a 4 2).getD .null :: st) h := by
  obtain ⟨v, hv⟩ := Option.isSome_iff_exists.mp hs
  rw [hv]
  exact je_get D113_19 rfl (by decide) hv
theorem D113_22 : decode (jt_code 113) 22 = .ok (.lload 4, 2) := by decide +kernel
theorem E113_22 {call : jv_F} {l0 l1 l2 l3 l5 : Option Value} {x : Int64} {st : List Value} {h : jv_H} : jv_ev call 113 22 [l0, l1, l2, l3, some (.long x), l5] st h = jv_ev call 113 24 [l0, l1, l2, l3, some (.long x), l5] (.long x :: st) h := je_lload D113_22 rfl rfl
theorem D113_24 : decode (jt_code 113) 24 = .ok (.lcmp, 1) := by decide +kernel
theorem E113_24 {call : jv_F} {l0 l1 l2 l3 l4 l5 : Option Value} {x y : Int64} {st : List Value} {h : jv_H} : jv_ev call 113 24 [l0, l1, l2, l3, l4, l5] (.long y :: .long x :: st) h = jv_ev call 113 25 [l0, l1, l2, l3, l4, l5] (.int (lg_cmp x y) :: st) h := je_lcmp D113_24 rfl
theorem D113_25 : decode (jt_code 113) 25 = .ok (.ifCond .ne 6, 3) := by decide +kernel
theorem E113_25 {call : jv_F} {l0 l1 l2 l3 l4 l5 : Option Value} {x : Int32} {st : List Value} {h : jv_H} : jv_ev call 113 25 [l0, l1, l2, l3, l4, l5] (.int x :: st) h = if ¬ x = 0 then jv_ev call 113 31 [l0, l1, l2, l3, l4, l5] st h else jv_ev call 113 28 [l0, l1, l2, l3, l4, l5] st h := je_ifc D113_25 (by decide) rfl rfl
theorem D113_28 : decode (jt_code 113) 28 = .ok (.bipush 6, 2) := by decide +kernel
theorem E113_28 {call : jv_F} {l0 l1 l2 l3 l4 l5 : Option Value}  {st : List Value} {h : jv_H} : jv_ev call 113 28 [l0, l1, l2, l3, l4, l5] st h = jv_ev call 113 30 [l0, l1, l2, l3, l4, l5] (.int (nI 6) :: st) h := je_bipush D113_28 rfl (by decide)
theorem D113_30 : decode (jt_code 113) 30 = .ok (.ireturn, 1) := by decide +kernel
theorem E113_30 {call : jv_F} {l0 l1 l2 l3 l4 l5 : Option Value} {v : Int32} {h : jv_H} : jv_ev call 113 30 [l0, l1, l2, l3, l4, l5] [.int v] h = some (some (.int v), h) := je_iret (ty := .int) D113_30 rfl rfl rfl
theorem D113_31 : decode (jt_code 113) 31 = .ok (.aload_n 0, 1) := by decide +kernel
theorem E113_31 {call : jv_F} {l1 l2 l3 l4 l5 : Option Value} {a : Nat} {st : List Value} {h : jv_H} : jv_ev call 113 31 [some (.ref a), l1, l2, l3, l4, l5] st h = jv_ev call 113 32 [some (.ref a), l1, l2, l3, l4, l5] (.ref a :: st) h := je_aload_n (r := some a) D113_31 rfl rfl
theorem D113_32 : decode (jt_code 113) 32 = .ok (.iload_n 3, 1) := by decide +kernel
theorem E113_32 {call : jv_F} {l0 l1 l2 l4 l5 : Option Value} {x : Int32} {st : List Value} {h : jv_H} : jv_ev call 113 32 [l0, l1, l2, some (.int x), l4, l5] st h = jv_ev call 113 33 [l0, l1, l2, some (.int x), l4, l5] (.int x :: st) h := je_iload_n D113_32 rfl rfl
theorem D113_33 : decode (jt_code 113) 33 = .ok (.ifCond .eq 12, 3) := by decide +kernel
theorem E113_33 {call : jv_F} {l0 l1 l2 l3 l4 l5 : Option Value} {x : Int32} {st : List Value} {h : jv_H} : jv_ev call 113 33 [l0, l1, l2, l3, l4, l5] (.int x :: st) h = if x = 0 then jv_ev call 113 45 [l0, l1, l2, l3, l4, l5] st h else jv_ev call 113 36 [l0, l1, l2, l3, l4, l5] st h := je_ifc D113_33 (by decide) rfl rfl
theorem D113_36 : decode (jt_code 113) 36 = .ok (.aload_n 0, 1) := by decide +kernel
theorem E113_36 {call : jv_F} {l1 l2 l3 l4 l5 : Option Value} {a : Nat} {st : List Value} {h : jv_H} : jv_ev call 113 36 [some (.ref a), l1, l2, l3, l4, l5] st h = jv_ev call 113 37 [some (.ref a), l1, l2, l3, l4, l5] (.ref a :: st) h := je_aload_n (r := some a) D113_36 rfl rfl
theorem D113_37 : decode (jt_code 113) 37 = .ok (.getfield 9, 3) := by decide +kernel
theorem E113_37 {call : jv_F} {l0 l1 l2 l3 l4 l5 : Option Value} {a : Nat} {st : List Value} {h : jv_H} (hs : (jv_gf h a 4 2).isSome = true) : jv_ev call 113 37 [l0, l1, l2, l3, l4, l5] (.ref a :: st) h = jv_ev call 113 40 [l0, l1, l2, l3, l4, l5] ((jv_gf h a 4 2).getD .null :: st) h := by
  obtain ⟨v, hv⟩ := Option.isSome_iff_exists.mp hs
  rw [hv]
  exact je_get D113_37 rfl (by decide) hv
theorem D113_40 : decode (jt_code 113) 40 = .ok (.lload_n 1, 1) := by decide +kernel
theorem E113_40 {call : jv_F} {l0 l2 l3 l4 l5 : Option Value} {x : Int64} {st : List Value} {h : jv_H} : jv_ev call 113 40 [l0, some (.long x), l2, l3, l4, l5] st h = jv_ev call 113 41 [l0, some (.long x), l2, l3, l4, l5] (.long x :: st) h := je_lload_n D113_40 rfl rfl
theorem D113_41 : decode (jt_code 113) 41 = .ok (.lrem, 1) := by decide +kernel
theorem E113_41 {call : jv_F} {l0 l1 l2 l3 l4 l5 : Option Value} {x y : Int64} {st : List Value} {h : jv_H} (hy : ¬ y = 0) : jv_ev call 113 41 [l0, l1, l2, l3, l4, l5] (.long y :: .long x :: st) h = jv_ev call 113 42 [l0, l1, l2, l3, l4, l5] (.long (x - x / y * y) :: st) h := je_lrem D113_41 rfl hy
theorem D113_42 : decode (jt_code 113) 42 = .ok (.goto 9, 3) := by decide +kernel
theorem E113_42 {call : jv_F} {l0 l1 l2 l3 l4 l5 : Option Value}  {st : List Value} {h : jv_H} : jv_ev call 113 42 [l0, l1, l2, l3, l4, l5] st h = jv_ev call 113 51 [l0, l1, l2, l3, l4, l5] st h := je_goto D113_42 (by decide)
theorem D113_45 : decode (jt_code 113) 45 = .ok (.aload_n 0, 1) := by decide +kernel
theorem E113_45 {call : jv_F} {l1 l2 l3 l4 l5 : Option Value} {a : Nat} {st : List Value} {h : jv_H} : jv_ev call 113 45 [some (.ref a), l1, l2, l3, l4, l5] st h = jv_ev call 113 46 [some (.ref a), l1, l2, l3, l4, l5] (.ref a :: st) h := je_aload_n (r := some a) D113_45 rfl rfl
theorem D113_46 : decode (jt_code 113) 46 = .ok (.getfield 9, 3) := by decide +kernel
theorem E113_46 {call : jv_F} {l0 l1 l2 l3 l4 l5 : Option Value} {a : Nat} {st : List Value} {h : jv_H} (hs : (jv_gf h a 4 2).isSome = true) : jv_ev call 113 46 [l0, l1, l2, l3, l4, l5] (.ref a :: st) h = jv_ev call 113 49 [l0, l1, l2, l3, l4, l5] ((jv_gf h a 4 2).getD .null :: st) h := by
  obtain ⟨v, hv⟩ := Option.isSome_iff_exists.mp hs
  rw [hv]
  exact je_get D113_46 rfl (by decide) hv
theorem D113_49 : decode (jt_code 113) 49 = .ok (.lload_n 1, 1) := by decide +kernel
theorem E113_49 {call : jv_F} {l0 l2 l3 l4 l5 : Option Value} {x : Int64} {st : List Value} {h : jv_H} : jv_ev call 113 49 [l0, some (.long x), l2, l3, l4, l5] st h = jv_ev call 113 50 [l0, some (.long x), l2, l3, l4, l5] (.long x :: st) h := je_lload_n D113_49 rfl rfl
theorem D113_50 : decode (jt_code 113) 50 = .ok (.ldiv, 1) := by decide +kernel
theorem E113_50 {call : jv_F} {l0 l1 l2 l3 l4 l5 : Option Value} {x y : Int64} {st : List Value} {h : jv_H} (hy : ¬ y = 0) : jv_ev call 113 50 [l0, l1, l2, l3, l4, l5] (.long y :: .long x :: st) h = jv_ev call 113 51 [l0, l1, l2, l3, l4, l5] (.long (x / y) :: st) h := je_ldiv D113_50 rfl hy
theorem D113_51 : decode (jt_code 113) 51 = .ok (.putfield 9, 3) := by decide +kernel
theorem E113_51 {call : jv_F} {l0 l1 l2 l3 l4 l5 : Option Value} {a : Nat} {v : Value} {st : List Value} {h : jv_H} (hs : (jv_pf h a 4 2 v).isSome = true) : jv_ev call 113 51 [l0, l1, l2, l3, l4, l5] (v :: .ref a :: st) h = jv_ev call 113 54 [l0, l1, l2, l3, l4, l5] st ((jv_pf h a 4 2 v).getD h) := by
  obtain ⟨h', hv⟩ := Option.isSome_iff_exists.mp hs
  rw [hv]
  exact je_put D113_51 rfl (by decide) (by decide) hv
theorem D113_54 : decode (jt_code 113) 54 = .ok (.iconst 0, 1) := by decide +kernel
theorem E113_54 {call : jv_F} {l0 l1 l2 l3 l4 l5 : Option Value}  {st : List Value} {h : jv_H} : jv_ev call 113 54 [l0, l1, l2, l3, l4, l5] st h = jv_ev call 113 55 [l0, l1, l2, l3, l4, l5] (.int (nI 0) :: st) h := je_iconst D113_54 rfl (by decide)
theorem D113_55 : decode (jt_code 113) 55 = .ok (.ireturn, 1) := by decide +kernel
theorem E113_55 {call : jv_F} {l0 l1 l2 l3 l4 l5 : Option Value} {v : Int32} {h : jv_H} : jv_ev call 113 55 [l0, l1, l2, l3, l4, l5] [.int v] h = some (some (.int v), h) := je_iret (ty := .int) D113_55 rfl rfl rfl
/-! method 114: DrumMachine$Job.takeRoot -/
theorem N114 {d : Nat} {b : Nat} {h : jv_H} : jv_run (d + 1) 114 [.ref b] h = jv_ev (jv_run d) 114 0 [some (.ref b), none, none, none, none, none, none] [] h := jv_run_eq (Nat.le_of_ble_eq_true rfl) rfl
theorem D114_0 : decode (jt_code 114) 0 = .ok (.aload_n 0, 1) := by decide +kernel
theorem E114_0 {call : jv_F} {l1 l2 l3 l4 l5 l6 : Option Value} {a : Nat} {st : List Value} {h : jv_H} : jv_ev call 114 0 [some (.ref a), l1, l2, l3, l4, l5, l6] st h = jv_ev call 114 1 [some (.ref a), l1, l2, l3, l4, l5, l6] (.ref a :: st) h := je_aload_n (r := some a) D114_0 rfl rfl
theorem D114_1 : decode (jt_code 114) 1 = .ok (.getfield 9, 3) := by decide +kernel
theorem E114_1 {call : jv_F} {l0 l1 l2 l3 l4 l5 l6 : Option Value} {a : Nat} {st : List Value} {h : jv_H} (hs : (jv_gf h a 4 2).isSome = true) : jv_ev call 114 1 [l0, l1, l2, l3, l4, l5, l6] (.ref a :: st) h = jv_ev call 114 4 [l0, l1, l2, l3, l4, l5, l6] ((jv_gf h a 4 2).getD .null :: st) h := by
  obtain ⟨v, hv⟩ := Option.isSome_iff_exists.mp hs
  rw [hv]
  exact je_get D114_1 rfl (by decide) hv
theorem D114_4 : decode (jt_code 114) 4 = .ok (.lconst 0, 1) := by decide +kernel
theorem E114_4 {call : jv_F} {l0 l1 l2 l3 l4 l5 l6 : Option Value}  {st : List Value} {h : jv_H} : jv_ev call 114 4 [l0, l1, l2, l3, l4, l5, l6] st h = jv_ev call 114 5 [l0, l1, l2, l3, l4, l5, l6] (.long 0 :: st) h := je_lconst D114_4 rfl (by decide)
theorem D114_5 : decode (jt_code 114) 5 = .ok (.lcmp, 1) := by decide +kernel
theorem E114_5 {call : jv_F} {l0 l1 l2 l3 l4 l5 l6 : Option Value} {x y : Int64} {st : List Value} {h : jv_H} : jv_ev call 114 5 [l0, l1, l2, l3, l4, l5, l6] (.long y :: .long x :: st) h = jv_ev call 114 6 [l0, l1, l2, l3, l4, l5, l6] (.int (lg_cmp x y) :: st) h := je_lcmp D114_5 rfl
theorem D114_6 : decode (jt_code 114) 6 = .ok (.ifCond .ge 6, 3) := by decide +kernel
theorem E114_6 {call : jv_F} {l0 l1 l2 l3 l4 l5 l6 : Option Value} {x : Int32} {st : List Value} {h : jv_H} : jv_ev call 114 6 [l0, l1, l2, l3, l4, l5, l6] (.int x :: st) h = if 0 ≤ x then jv_ev call 114 12 [l0, l1, l2, l3, l4, l5, l6] st h else jv_ev call 114 9 [l0, l1, l2, l3, l4, l5, l6] st h := je_ifc D114_6 (by decide) rfl rfl
theorem D114_9 : decode (jt_code 114) 9 = .ok (.bipush 6, 2) := by decide +kernel
theorem E114_9 {call : jv_F} {l0 l1 l2 l3 l4 l5 l6 : Option Value}  {st : List Value} {h : jv_H} : jv_ev call 114 9 [l0, l1, l2, l3, l4, l5, l6] st h = jv_ev call 114 11 [l0, l1, l2, l3, l4, l5, l6] (.int (nI 6) :: st) h := je_bipush D114_9 rfl (by decide)
theorem D114_11 : decode (jt_code 114) 11 = .ok (.ireturn, 1) := by decide +kernel
theorem E114_11 {call : jv_F} {l0 l1 l2 l3 l4 l5 l6 : Option Value} {v : Int32} {h : jv_H} : jv_ev call 114 11 [l0, l1, l2, l3, l4, l5, l6] [.int v] h = some (some (.int v), h) := je_iret (ty := .int) D114_11 rfl rfl rfl
theorem D114_12 : decode (jt_code 114) 12 = .ok (.lconst 0, 1) := by decide +kernel
theorem E114_12 {call : jv_F} {l0 l1 l2 l3 l4 l5 l6 : Option Value}  {st : List Value} {h : jv_H} : jv_ev call 114 12 [l0, l1, l2, l3, l4, l5, l6] st h = jv_ev call 114 13 [l0, l1, l2, l3, l4, l5, l6] (.long 0 :: st) h := je_lconst D114_12 rfl (by decide)
theorem D114_13 : decode (jt_code 114) 13 = .ok (.lstore_n 1, 1) := by decide +kernel
theorem E114_13 {call : jv_F} {l0 l1 l2 l3 l4 l5 l6 : Option Value} {x : Int64} {st : List Value} {h : jv_H} (hk : ¬ jv_is2 (some l0) = true) : jv_ev call 114 13 [l0, l1, l2, l3, l4, l5, l6] (.long x :: st) h = jv_ev call 114 14 [l0, some (.long x), none, l3, l4, l5, l6] st h := je_lstore_n D114_13 rfl (Nat.le_of_ble_eq_true rfl) (by show jv_st2 _ 1 _ = _; simp only [jv_st2, jv_kill, List.getElem?_cons_succ, List.getElem?_cons_zero, hk, if_false]; rfl)
theorem D114_14 : decode (jt_code 114) 14 = .ok (.ldc2_w 181, 3) := by decide +kernel
theorem E114_14 {call : jv_F} {l0 l1 l2 l3 l4 l5 l6 : Option Value}  {st : List Value} {h : jv_H} : jv_ev call 114 14 [l0, l1, l2, l3, l4, l5, l6] st h = jv_ev call 114 17 [l0, l1, l2, l3, l4, l5, l6] (.long 8388608 :: st) h := je_ldc2 D114_14 rfl (by decide)
theorem D114_17 : decode (jt_code 114) 17 = .ok (.lstore_n 3, 1) := by decide +kernel
theorem E114_17 {call : jv_F} {l0 l1 l2 l3 l4 l5 l6 : Option Value} {x : Int64} {st : List Value} {h : jv_H} (hk : ¬ jv_is2 (some l2) = true) : jv_ev call 114 17 [l0, l1, l2, l3, l4, l5, l6] (.long x :: st) h = jv_ev call 114 18 [l0, l1, l2, some (.long x), none, l5, l6] st h := je_lstore_n D114_17 rfl (Nat.le_of_ble_eq_true rfl) (by show jv_st2 _ 3 _ = _; simp only [jv_st2, jv_kill, List.getElem?_cons_succ, List.getElem?_cons_zero, hk, if_false]; rfl)
theorem D114_18 : decode (jt_code 114) 18 = .ok (.lload_n 3, 1) := by decide +kernel
theorem E114_18 {call : jv_F} {l0 l1 l2 l4 l5 l6 : Option Value} {x : Int64} {st : List Value} {h : jv_H} : jv_ev call 114 18 [l0, l1, l2, some (.long x), l4, l5, l6] st h = jv_ev call 114 19 [l0, l1, l2, some (.long x), l4, l5, l6] (.long x :: st) h := je_lload_n D114_18 rfl rfl
theorem D114_19 : decode (jt_code 114) 19 = .ok (.lconst 0, 1) := by decide +kernel
theorem E114_19 {call : jv_F} {l0 l1 l2 l3 l4 l5 l6 : Option Value}  {st : List Value} {h : jv_H} : jv_ev call 114 19 [l0, l1, l2, l3, l4, l5, l6] st h = jv_ev call 114 20 [l0, l1, l2, l3, l4, l5, l6] (.long 0 :: st) h := je_lconst D114_19 rfl (by decide)
theorem D114_20 : decode (jt_code 114) 20 = .ok (.lcmp, 1) := by decide +kernel
theorem E114_20 {call : jv_F} {l0 l1 l2 l3 l4 l5 l6 : Option Value} {x y : Int64} {st : List Value} {h : jv_H} : jv_ev call 114 20 [l0, l1, l2, l3, l4, l5, l6] (.long y :: .long x :: st) h = jv_ev call 114 21 [l0, l1, l2, l3, l4, l5, l6] (.int (lg_cmp x y) :: st) h := je_lcmp D114_20 rfl
theorem D114_21 : decode (jt_code 114) 21 = .ok (.ifCond .le 31, 3) := by decide +kernel
theorem E114_21 {call : jv_F} {l0 l1 l2 l3 l4 l5 l6 : Option Value} {x : Int32} {st : List Value} {h : jv_H} : jv_ev call 114 21 [l0, l1, l2, l3, l4, l5, l6] (.int x :: st) h = if x ≤ 0 then jv_ev call 114 52 [l0, l1, l2, l3, l4, l5, l6] st h else jv_ev call 114 24 [l0, l1, l2, l3, l4, l5, l6] st h := je_ifc D114_21 (by decide) rfl rfl
theorem D114_24 : decode (jt_code 114) 24 = .ok (.lload_n 1, 1) := by decide +kernel
theorem E114_24 {call : jv_F} {l0 l2 l3 l4 l5 l6 : Option Value} {x : Int64} {st : List Value} {h : jv_H} : jv_ev call 114 24 [l0, some (.long x), l2, l3, l4, l5, l6] st h = jv_ev call 114 25 [l0, some (.long x), l2, l3, l4, l5, l6] (.long x :: st) h := je_lload_n D114_24 rfl rfl
theorem D114_25 : decode (jt_code 114) 25 = .ok (.lload_n 3, 1) := by decide +kernel
theorem E114_25 {call : jv_F} {l0 l1 l2 l4 l5 l6 : Option Value} {x : Int64} {st : List Value} {h : jv_H} : jv_ev call 114 25 [l0, l1, l2, some (.long x), l4, l5, l6] st h = jv_ev call 114 26 [l0, l1, l2, some (.long x), l4, l5, l6] (.long x :: st) h := je_lload_n D114_25 rfl rfl
theorem D114_26 : decode (jt_code 114) 26 = .ok (.ladd, 1) := by decide +kernel
theorem E114_26 {call : jv_F} {l0 l1 l2 l3 l4 l5 l6 : Option Value} {x y : Int64} {st : List Value} {h : jv_H} : jv_ev call 114 26 [l0, l1, l2, l3, l4, l5, l6] (.long y :: .long x :: st) h = jv_ev call 114 27 [l0, l1, l2, l3, l4, l5, l6] (.long (x + y) :: st) h := je_l2 (f := fun x y => x + y) D114_26 rfl (fun _ => rfl)
theorem D114_27 : decode (jt_code 114) 27 = .ok (.lstore 5, 2) := by decide +kernel
theorem E114_27 {call : jv_F} {l0 l1 l2 l3 l4 l5 l6 : Option Value} {x : Int64} {st : List Value} {h : jv_H} (hk : ¬ jv_is2 (some l4) = true) : jv_ev call 114 27 [l0, l1, l2, l3, l4, l5, l6] (.long x :: st) h = jv_ev call 114 29 [l0, l1, l2, l3, l4, some (.long x), none] st h := je_lstore D114_27 rfl (Nat.le_of_ble_eq_true rfl) (by show jv_st2 _ 5 _ = _; simp only [jv_st2, jv_kill, List.getElem?_cons_succ, List.getElem?_cons_zero, hk, if_false]; rfl)
theorem D114_29 : decode (jt_code 114) 29 = .ok (.lload 5, 2) := by decide +kernel
theorem E114_29 {call : jv_F} {l0 l1 l2 l3 l4 l6 : Option Value} {x : Int64} {st : List Value} {h : jv_H} : jv_ev call 114 29 [l0, l1, l2, l3, l4, some (.long x), l6] st h = jv_ev call 114 31 [l0, l1, l2, l3, l4, some (.long x), l6] (.long x :: st) h := je_lload D114_29 rfl rfl
theorem D114_31 : decode (jt_code 114) 31 = .ok (.lload 5, 2) := by decide +kernel
theorem E114_31 {call : jv_F} {l0 l1 l2 l3 l4 l6 : Option Value} {x : Int64} {st : List Value} {h : jv_H} : jv_ev call 114 31 [l0, l1, l2, l3, l4, some (.long x), l6] st h = jv_ev call 114 33 [l0, l1, l2, l3, l4, some (.long x), l6] (.long x :: st) h := je_lload D114_31 rfl rfl
theorem D114_33 : decode (jt_code 114) 33 = .ok (.lmul, 1) := by decide +kernel
theorem E114_33 {call : jv_F} {l0 l1 l2 l3 l4 l5 l6 : Option Value} {x y : Int64} {st : List Value} {h : jv_H} : jv_ev call 114 33 [l0, l1, l2, l3, l4, l5, l6] (.long y :: .long x :: st) h = jv_ev call 114 34 [l0, l1, l2, l3, l4, l5, l6] (.long (x * y) :: st) h := je_l2 (f := fun x y => x * y) D114_33 rfl (fun _ => rfl)
theorem D114_34 : decode (jt_code 114) 34 = .ok (.aload_n 0, 1) := by decide +kernel
theorem E114_34 {call : jv_F} {l1 l2 l3 l4 l5 l6 : Option Value} {a : Nat} {st : List Value} {h : jv_H} : jv_ev call 114 34 [some (.ref a), l1, l2, l3, l4, l5, l6] st h = jv_ev call 114 35 [some (.ref a), l1, l2, l3, l4, l5, l6] (.ref a :: st) h := je_aload_n (r := some a) D114_34 rfl rfl
theorem D114_35 : decode (jt_code 114) 35 = .ok (.getfield 9, 3) := by decide +kernel
theorem E114_35 {call : jv_F} {l0 l1 l2 l3 l4 l5 l6 : Option Value} {a : Nat} {st : List Value} {h : jv_H} (hs : (jv_gf h a 4 2).isSome = true) : jv_ev call 114 35 [l0, l1, l2, l3, l4, l5, l6] (.ref a :: st) h = jv_ev call 114 38 [l0, l1, l2, l3, l4, l5, l6] ((jv_gf h a 4 2).getD .null :: st) h := by
  obtain ⟨v, hv⟩ := Option.isSome_iff_exists.mp hs
  rw [hv]
  exact je_get D114_35 rfl (by decide) hv
theorem D114_38 : decode (jt_code 114) 38 = .ok (.lcmp, 1) := by decide +kernel
theorem E114_38 {call : jv_F} {l0 l1 l2 l3 l4 l5 l6 : Option Value} {x y : Int64} {st : List Value} {h : jv_H} : jv_ev call 114 38 [l0, l1, l2, l3, l4, l5, l6] (.long y :: .long x :: st) h = jv_ev call 114 39 [l0, l1, l2, l3, l4, l5, l6] (.int (lg_cmp x y) :: st) h := je_lcmp D114_38 rfl
theorem D114_39 : decode (jt_code 114) 39 = .ok (.ifCond .gt 6, 3) := by decide +kernel
theorem E114_39 {call : jv_F} {l0 l1 l2 l3 l4 l5 l6 : Option Value} {x : Int32} {st : List Value} {h : jv_H} : jv_ev call 114 39 [l0, l1, l2, l3, l4, l5, l6] (.int x :: st) h = if 0 < x then jv_ev call 114 45 [l0, l1, l2, l3, l4, l5, l6] st h else jv_ev call 114 42 [l0, l1, l2, l3, l4, l5, l6] st h := je_ifc D114_39 (by decide) rfl rfl
theorem D114_42 : decode (jt_code 114) 42 = .ok (.lload 5, 2) := by decide +kernel
theorem E114_42 {call : jv_F} {l0 l1 l2 l3 l4 l6 : Option Value} {x : Int64} {st : List Value} {h : jv_H} : jv_ev call 114 42 [l0, l1, l2, l3, l4, some (.long x), l6] st h = jv_ev call 114 44 [l0, l1, l2, l3, l4, some (.long x), l6] (.long x :: st) h := je_lload D114_42 rfl rfl
theorem D114_44 : decode (jt_code 114) 44 = .ok (.lstore_n 1, 1) := by decide +kernel
theorem E114_44 {call : jv_F} {l0 l1 l2 l3 l4 l5 l6 : Option Value} {x : Int64} {st : List Value} {h : jv_H} (hk : ¬ jv_is2 (some l0) = true) : jv_ev call 114 44 [l0, l1, l2, l3, l4, l5, l6] (.long x :: st) h = jv_ev call 114 45 [l0, some (.long x), none, l3, l4, l5, l6] st h := je_lstore_n D114_44 rfl (Nat.le_of_ble_eq_true rfl) (by show jv_st2 _ 1 _ = _; simp only [jv_st2, jv_kill, List.getElem?_cons_succ, List.getElem?_cons_zero, hk, if_false]; rfl)
theorem D114_45 : decode (jt_code 114) 45 = .ok (.lload_n 3, 1) := by decide +kernel
theorem E114_45 {call : jv_F} {l0 l1 l2 l4 l5 l6 : Option Value} {x : Int64} {st : List Value} {h : jv_H} : jv_ev call 114 45 [l0, l1, l2, some (.long x), l4, l5, l6] st h = jv_ev call 114 46 [l0, l1, l2, some (.long x), l4, l5, l6] (.long x :: st) h := je_lload_n D114_45 rfl rfl
theorem D114_46 : decode (jt_code 114) 46 = .ok (.iconst 1, 1) := by decide +kernel
theorem E114_46 {call : jv_F} {l0 l1 l2 l3 l4 l5 l6 : Option Value}  {st : List Value} {h : jv_H} : jv_ev call 114 46 [l0, l1, l2, l3, l4, l5, l6] st h = jv_ev call 114 47 [l0, l1, l2, l3, l4, l5, l6] (.int (nI 1) :: st) h := je_iconst D114_46 rfl (by decide)
theorem D114_47 : decode (jt_code 114) 47 = .ok (.lshr, 1) := by decide +kernel
theorem E114_47 {call : jv_F} {l0 l1 l2 l3 l4 l5 l6 : Option Value} {x : Int64} {y : Int32} {st : List Value} {h : jv_H} : jv_ev call 114 47 [l0, l1, l2, l3, l4, l5, l6] (.int y :: .long x :: st) h = jv_ev call 114 48 [l0, l1, l2, l3, l4, l5, l6] (.long (x >>> (y.toInt64 &&& 63)) :: st) h := je_lshr D114_47 rfl
theorem D114_48 : decode (jt_code 114) 48 = .ok (.lstore_n 3, 1) := by decide +kernel
theorem E114_48 {call : jv_F} {l0 l1 l2 l3 l4 l5 l6 : Option Value} {x : Int64} {st : List Value} {h : jv_H} (hk : ¬ jv_is2 (some l2) = true) : jv_ev call 114 48 [l0, l1, l2, l3, l4, l5, l6] (.long x :: st) h = jv_ev call 114 49 [l0, l1, l2, some (.long x), none, l5, l6] st h := je_lstore_n D114_48 rfl (Nat.le_of_ble_eq_true rfl) (by show jv_st2 _ 3 _ = _; simp only [jv_st2, jv_kill, List.getElem?_cons_succ, List.getElem?_cons_zero, hk, if_false]; rfl)
theorem D114_49 : decode (jt_code 114) 49 = .ok (.goto (-31), 3) := by decide +kernel
theorem E114_49 {call : jv_F} {l0 l1 l2 l3 l4 l5 l6 : Option Value}  {st : List Value} {h : jv_H} : jv_ev call 114 49 [l0, l1, l2, l3, l4, l5, l6] st h = jv_ev call 114 18 [l0, l1, l2, l3, l4, l5, l6] st h := je_goto D114_49 (by decide)
theorem D114_52 : decode (jt_code 114) 52 = .ok (.aload_n 0, 1) := by decide +kernel
theorem E114_52 {call : jv_F} {l1 l2 l3 l4 l5 l6 : Option Value} {a : Nat} {st : List Value} {h : jv_H} : jv_ev call 114 52 [some (.ref a), l1, l2, l3, l4, l5, l6] st h = jv_ev call 114 53 [some (.ref a), l1, l2, l3, l4, l5, l6] (.ref a :: st) h := je_aload_n (r := some a) D114_52 rfl rfl
theorem D114_53 : decode (jt_code 114) 53 = .ok (.lload_n 1, 1) := by decide +kernel
theorem E114_53 {call : jv_F} {l0 l2 l3 l4 l5 l6 : Option Value} {x : Int64} {st : List Value} {h : jv_H} : jv_ev call 114 53 [l0, some (.long x), l2, l3, l4, l5, l6] st h = jv_ev call 114 54 [l0, some (.long x), l2, l3, l4, l5, l6] (.long x :: st) h := je_lload_n D114_53 rfl rfl
theorem D114_54 : decode (jt_code 114) 54 = .ok (.putfield 9, 3) := by decide +kernel
theorem E114_54 {call : jv_F} {l0 l1 l2 l3 l4 l5 l6 : Option Value} {a : Nat} {v : Value} {st : List Value} {h : jv_H} (hs : (jv_pf h a 4 2 v).isSome = true) : jv_ev call 114 54 [l0, l1, l2, l3, l4, l5, l6] (v :: .ref a :: st) h = jv_ev call 114 57 [l0, l1, l2, l3, l4, l5, l6] st ((jv_pf h a 4 2 v).getD h) := by
  obtain ⟨h', hv⟩ := Option.isSome_iff_exists.mp hs
  rw [hv]
  exact je_put D114_54 rfl (by decide) (by decide) hv
theorem D114_57 : decode (jt_code 114) 57 = .ok (.iconst 0, 1) := by decide +kernel
theorem E114_57 {call : jv_F} {l0 l1 l2 l3 l4 l5 l6 : Option Value}  {st : List Value} {h : jv_H} : jv_ev call 114 57 [l0, l1, l2, l3, l4, l5, l6] st h = jv_ev call 114 58 [l0, l1, l2, l3, l4, l5, l6] (.int (nI 0) :: st) h := je_iconst D114_57 rfl (by decide)
theorem D114_58 : decode (jt_code 114) 58 = .ok (.ireturn, 1) := by decide +kernel
theorem E114_58 {call : jv_F} {l0 l1 l2 l3 l4 l5 l6 : Option Value} {v : Int32} {h : jv_H} : jv_ev call 114 58 [l0, l1, l2, l3, l4, l5, l6] [.int v] h = some (some (.int v), h) := je_iret (ty := .int) D114_58 rfl rfl rfl
/-! method 121: DrumMachine$Tray.empty -/
theorem N121 {d : Nat} {b : Nat} {h : jv_H} : jv_run (d + 1) 121 [.ref b] h = jv_ev (jv_run d) 121 0 [some (.ref b)] [] h := jv_run_eq (Nat.le_of_ble_eq_true rfl) rfl
theorem D121_0 : decode (jt_code 121) 0 = .ok (.aload_n 0, 1) := by decide +kernel
theorem E121_0 {call : jv_F} {a : Nat} {st : List Value} {h : jv_H} : jv_ev call 121 0 [some (.ref a)] st h = jv_ev call 121 1 [some (.ref a)] (.ref a :: st) h := je_aload_n (r := some a) D121_0 rfl rfl
theorem D121_1 : decode (jt_code 121) 1 = .ok (.iconst 0, 1) := by decide +kernel
theorem E121_1 {call : jv_F} {l0 : Option Value}  {st : List Value} {h : jv_H} : jv_ev call 121 1 [l0] st h = jv_ev call 121 2 [l0] (.int (nI 0) :: st) h := je_iconst D121_1 rfl (by decide)
theorem D121_2 : decode (jt_code 121) 2 = .ok (.putfield 19, 3) := by decide +kernel
theorem E121_2 {call : jv_F} {l0 : Option Value} {a : Nat} {v : Value} {st : List Value} {h : jv_H} (hs : (jv_pf h a 5 2 v).isSome = true) : jv_ev call 121 2 [l0] (v :: .ref a :: st) h = jv_ev call 121 5 [l0] st ((jv_pf h a 5 2 v).getD h) := by
  obtain ⟨h', hv⟩ := Option.isSome_iff_exists.mp hs
  rw [hv]
  exact je_put D121_2 rfl (by decide) (by decide) hv
theorem D121_5 : decode (jt_code 121) 5 = .ok (.aload_n 0, 1) := by decide +kernel
theorem E121_5 {call : jv_F} {a : Nat} {st : List Value} {h : jv_H} : jv_ev call 121 5 [some (.ref a)] st h = jv_ev call 121 6 [some (.ref a)] (.ref a :: st) h := je_aload_n (r := some a) D121_5 rfl rfl
theorem D121_6 : decode (jt_code 121) 6 = .ok (.iconst 0, 1) := by decide +kernel
theorem E121_6 {call : jv_F} {l0 : Option Value}  {st : List Value} {h : jv_H} : jv_ev call 121 6 [l0] st h = jv_ev call 121 7 [l0] (.int (nI 0) :: st) h := je_iconst D121_6 rfl (by decide)
theorem D121_7 : decode (jt_code 121) 7 = .ok (.putfield 23, 3) := by decide +kernel
theorem E121_7 {call : jv_F} {l0 : Option Value} {a : Nat} {v : Value} {st : List Value} {h : jv_H} (hs : (jv_pf h a 5 3 v).isSome = true) : jv_ev call 121 7 [l0] (v :: .ref a :: st) h = jv_ev call 121 10 [l0] st ((jv_pf h a 5 3 v).getD h) := by
  obtain ⟨h', hv⟩ := Option.isSome_iff_exists.mp hs
  rw [hv]
  exact je_put D121_7 rfl (by decide) (by decide) hv
theorem D121_10 : decode (jt_code 121) 10 = .ok (.return_, 1) := by decide +kernel
theorem E121_10 {call : jv_F} {l0 : Option Value}  {h : jv_H} : jv_ev call 121 10 [l0] [] h = some (none, h) := je_ret D121_10 rfl
