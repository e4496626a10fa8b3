/-! method 88: DrumMachine$Job.<init> -/
theorem N88 {d : Nat} {b : Nat} {a0 : Int32} {a1 : Int32} {a2 : Option Nat} {a3 : Int32} {h : jv_H} : jv_run (d + 1) 88 [.ref b, .int a0, .int a1, va_rf a2, .int a3] h = jv_ev (jv_run d) 88 0 [some (.ref b), some (.int a0), some (.int a1), some (va_rf a2), some (.int a3), none] [] h := by
  cases a2 <;>
  exact jv_run_eq (Nat.le_of_ble_eq_true rfl) rfl
theorem D88_0 : decode (jt_code 88) 0 = .ok (.aload_n 0, 1) := by decide +kernel
theorem E88_0 {call : jv_F} {l1 l2 l3 l4 l5 : Option Value} {a : Nat} {st : List Value} {h : jv_H} : jv_ev call 88 0 [some (.ref a), l1, l2, l3, l4, l5] st h = jv_ev call 88 1 [some (.ref a), l1, l2, l3, l4, l5] (.ref a :: st) h := je_aload_n (r := some a) D88_0 rfl rfl
theorem D88_1 : decode (jt_code 88) 1 = .ok (.invokespecial 3, 3) := by decide +kernel
theorem E88_1 {call : jv_F} {l0 l1 l2 l3 l4 l5 : Option Value} {b : Nat} {st : List Value} {h : jv_H} (hw : jv_wide st = true) : jv_ev call 88 1 [l0, l1, l2, l3, l4, l5] (.ref b :: st) h = jv_ev call 88 4 [l0, l1, l2, l3, l4, l5] st h := je_obj D88_1 rfl (by decide) hw
theorem D88_4 : decode (jt_code 88) 4 = .ok (.aload_n 0, 1) := by decide +kernel
theorem E88_4 {call : jv_F} {l1 l2 l3 l4 l5 : Option Value} {a : Nat} {st : List Value} {h : jv_H} : jv_ev call 88 4 [some (.ref a), l1, l2, l3, l4, l5] st h = jv_ev call 88 5 [some (.ref a), l1, l2, l3, l4, l5] (.ref a :: st) h := je_aload_n (r := some a) D88_4 rfl rfl
theorem D88_5 : decode (jt_code 88) 5 = .ok (.lconst 0, 1) := by decide +kernel
theorem E88_5 {call : jv_F} {l0 l1 l2 l3 l4 l5 : Option Value}  {st : List Value} {h : jv_H} : jv_ev call 88 5 [l0, l1, l2, l3, l4, l5] st h = jv_ev call 88 6 [l0, l1, l2, l3, l4, l5] (.long 0 :: st) h := je_lconst D88_5 rfl (by decide)
theorem D88_6 : decode (jt_code 88) 6 = .ok (.putfield 9, 3) := by decide +kernel
theorem E88_6 {call : jv_F} {l0 l1 l2 l3 l4 l5 : Option Value} {a : Nat} {v : Value} {st : List Value} {h : jv_H} (hs : (jv_pf h a 4 2 v).isSome = true) : jv_ev call 88 6 [l0, l1, l2, l3, l4, l5] (v :: .ref a :: st) h = jv_ev call 88 9 [l0, l1, l2, l3, l4, l5] st ((jv_pf h a 4 2 v).getD h) := by
  obtain ⟨h', hv⟩ := Option.isSome_iff_exists.mp hs
  rw [hv]
  exact je_put D88_6 rfl (by decide) (by decide) hv
theorem D88_9 : decode (jt_code 88) 9 = .ok (.aload_n 0, 1) := by decide +kernel
theorem E88_9 {call : jv_F} {l1 l2 l3 l4 l5 : Option Value} {a : Nat} {st : List Value} {h : jv_H} : jv_ev call 88 9 [some (.ref a), l1, l2, l3, l4, l5] st h = jv_ev call 88 10 [some (.ref a), l1, l2, l3, l4, l5] (.ref a :: st) h := je_aload_n (r := some a) D88_9 rfl rfl
theorem D88_10 : decode (jt_code 88) 10 = .ok (.sipush 128, 3) := by decide +kernel
theorem E88_10 {call : jv_F} {l0 l1 l2 l3 l4 l5 : Option Value}  {st : List Value} {h : jv_H} : jv_ev call 88 10 [l0, l1, l2, l3, l4, l5] st h = jv_ev call 88 13 [l0, l1, l2, l3, l4, l5] (.int (nI 128) :: st) h := je_sipush D88_10 rfl (by decide)
theorem D88_13 : decode (jt_code 88) 13 = .ok (.newarray .int, 2) := by decide +kernel
theorem E88_13 {call : jv_F} {l0 l1 l2 l3 l4 l5 : Option Value} {k : Nat} {st : List Value} {h : jv_H} (hk : k ≤ 100000) : jv_ev call 88 13 [l0, l1, l2, l3, l4, l5] (.int (nI k) :: st) h = jv_ev call 88 15 [l0, l1, l2, l3, l4, l5] (.ref h.2.1 :: st) (jv_newa h 0 k (.int 0)) := je_newarray D88_13 rfl (by decide) (by decide) (nI_pos (by omega)) (nI_clamp (by omega)) hk rfl
theorem D88_15 : decode (jt_code 88) 15 = .ok (.putfield 15, 3) := by decide +kernel
theorem E88_15 {call : jv_F} {l0 l1 l2 l3 l4 l5 : Option Value} {a : Nat} {v : Value} {st : List Value} {h : jv_H} (hs : (jv_pf h a 4 3 v).isSome = true) : jv_ev call 88 15 [l0, l1, l2, l3, l4, l5] (v :: .ref a :: st) h = jv_ev call 88 18 [l0, l1, l2, l3, l4, l5] st ((jv_pf h a 4 3 v).getD h) := by
  obtain ⟨h', hv⟩ := Option.isSome_iff_exists.mp hs
  rw [hv]
  exact je_put D88_15 rfl (by decide) (by decide) hv
theorem D88_18 : decode (jt_code 88) 18 = .ok (.aload_n 0, 1) := by decide +kernel
theorem E88_18 {call : jv_F} {l1 l2 l3 l4 l5 : Option Value} {a : Nat} {st : List Value} {h : jv_H} : jv_ev call 88 18 [some (.ref a), l1, l2, l3, l4, l5] st h = jv_ev call 88 19 [some (.ref a), l1, l2, l3, l4, l5] (.ref a :: st) h := je_aload_n (r := some a) D88_18 rfl rfl
theorem D88_19 : decode (jt_code 88) 19 = .ok (.iconst 0, 1) := by decide +kernel
theorem E88_19 {call : jv_F} {l0 l1 l2 l3 l4 l5 : Option Value}  {st : List Value} {h : jv_H} : jv_ev call 88 19 [l0, l1, l2, l3, l4, l5] st h = jv_ev call 88 20 [l0, l1, l2, l3, l4, l5] (.int (nI 0) :: st) h := je_iconst D88_19 rfl (by decide)
theorem D88_20 : decode (jt_code 88) 20 = .ok (.putfield 19, 3) := by decide +kernel
theorem E88_20 {call : jv_F} {l0 l1 l2 l3 l4 l5 : Option Value} {a : Nat} {v : Value} {st : List Value} {h : jv_H} (hs : (jv_pf h a 4 4 v).isSome = true) : jv_ev call 88 20 [l0, l1, l2, l3, l4, l5] (v :: .ref a :: st) h = jv_ev call 88 23 [l0, l1, l2, l3, l4, l5] st ((jv_pf h a 4 4 v).getD h) := by
  obtain ⟨h', hv⟩ := Option.isSome_iff_exists.mp hs
  rw [hv]
  exact je_put D88_20 rfl (by decide) (by decide) hv
theorem D88_23 : decode (jt_code 88) 23 = .ok (.aload_n 0, 1) := by decide +kernel
theorem E88_23 {call : jv_F} {l1 l2 l3 l4 l5 : Option Value} {a : Nat} {st : List Value} {h : jv_H} : jv_ev call 88 23 [some (.ref a), l1, l2, l3, l4, l5] st h = jv_ev call 88 24 [some (.ref a), l1, l2, l3, l4, l5] (.ref a :: st) h := je_aload_n (r := some a) D88_23 rfl rfl
theorem D88_24 : decode (jt_code 88) 24 = .ok (.sipush 1024, 3) := by decide +kernel
theorem E88_24 {call : jv_F} {l0 l1 l2 l3 l4 l5 : Option Value}  {st : List Value} {h : jv_H} : jv_ev call 88 24 [l0, l1, l2, l3, l4, l5] st h = jv_ev call 88 27 [l0, l1, l2, l3, l4, l5] (.int (nI 1024) :: st) h := je_sipush D88_24 rfl (by decide)
theorem D88_27 : decode (jt_code 88) 27 = .ok (.newarray .long, 2) := by decide +kernel
theorem E88_27 {call : jv_F} {l0 l1 l2 l3 l4 l5 : Option Value} {k : Nat} {st : List Value} {h : jv_H} (hk : k ≤ 100000) : jv_ev call 88 27 [l0, l1, l2, l3, l4, l5] (.int (nI k) :: st) h = jv_ev call 88 29 [l0, l1, l2, l3, l4, l5] (.ref h.2.1 :: st) (jv_newa h 1 k (.long 0)) := je_newarray D88_27 rfl (by decide) (by decide) (nI_pos (by omega)) (nI_clamp (by omega)) hk rfl
theorem D88_29 : decode (jt_code 88) 29 = .ok (.putfield 23, 3) := by decide +kernel
theorem E88_29 {call : jv_F} {l0 l1 l2 l3 l4 l5 : Option Value} {a : Nat} {v : Value} {st : List Value} {h : jv_H} (hs : (jv_pf h a 4 5 v).isSome = true) : jv_ev call 88 29 [l0, l1, l2, l3, l4, l5] (v :: .ref a :: st) h = jv_ev call 88 32 [l0, l1, l2, l3, l4, l5] st ((jv_pf h a 4 5 v).getD h) := by
  obtain ⟨h', hv⟩ := Option.isSome_iff_exists.mp hs
  rw [hv]
  exact je_put D88_29 rfl (by decide) (by decide) hv
theorem D88_32 : decode (jt_code 88) 32 = .ok (.aload_n 0, 1) := by decide +kernel
theorem E88_32 {call : jv_F} {l1 l2 l3 l4 l5 : Option Value} {a : Nat} {st : List Value} {h : jv_H} : jv_ev call 88 32 [some (.ref a), l1, l2, l3, l4, l5] st h = jv_ev call 88 33 [some (.ref a), l1, l2, l3, l4, l5] (.ref a :: st) h := je_aload_n (r := some a) D88_32 rfl rfl
theorem D88_33 : decode (jt_code 88) 33 = .ok (.bipush 64, 2) := by decide +kernel
theorem E88_33 {call : jv_F} {l0 l1 l2 l3 l4 l5 : Option Value}  {st : List Value} {h : jv_H} : jv_ev call 88 33 [l0, l1, l2, l3, l4, l5] st h = jv_ev call 88 35 [l0, l1, l2, l3, l4, l5] (.int (nI 64) :: st) h := je_bipush D88_33 rfl (by decide)
theorem D88_35 : decode (jt_code 88) 35 = .ok (.anewarray 27, 3) := by decide +kernel
theorem E88_35 {call : jv_F} {l0 l1 l2 l3 l4 l5 : Option Value} {k : Nat} {st : List Value} {h : jv_H} (hk : k ≤ 100000) : jv_ev call 88 35 [l0, l1, l2, l3, l4, l5] (.int (nI k) :: st) h = jv_ev call 88 38 [l0, l1, l2, l3, l4, l5] (.ref h.2.1 :: st) (jv_newa h 3 k .null) := je_anewarray (ci := 1) D88_35 rfl (by decide) (by decide) (by decide) (nI_pos (by omega)) (nI_clamp (by omega)) hk
theorem D88_38 : decode (jt_code 88) 38 = .ok (.putfield 29, 3) := by decide +kernel
theorem E88_38 {call : jv_F} {l0 l1 l2 l3 l4 l5 : Option Value} {a : Nat} {v : Value} {st : List Value} {h : jv_H} (hs : (jv_pf h a 4 6 v).isSome = true) : jv_ev call 88 38 [l0, l1, l2, l3, l4, l5] (v :: .ref a :: st) h = jv_ev call 88 41 [l0, l1, l2, l3, l4, l5] st ((jv_pf h a 4 6 v).getD h) := by
  obtain ⟨h', hv⟩ := Option.isSome_iff_exists.mp hs
  rw [hv]
  exact je_put D88_38 rfl (by decide) (by decide) hv
theorem D88_41 : decode (jt_code 88) 41 = .ok (.aload_n 0, 1) := by decide +kernel
theorem E88_41 {call : jv_F} {l1 l2 l3 l4 l5 : Option Value} {a : Nat} {st : List Value} {h : jv_H} : jv_ev call 88 41 [some (.ref a), l1, l2, l3, l4, l5] st h = jv_ev call 88 42 [some (.ref a), l1, l2, l3, l4, l5] (.ref a :: st) h := je_aload_n (r := some a) D88_41 rfl rfl
theorem D88_42 : decode (jt_code 88) 42 = .ok (.iconst 0, 1) := by decide +kernel
theorem E88_42 {call : jv_F} {l0 l1 l2 l3 l4 l5 : Option Value}  {st : List Value} {h : jv_H} : jv_ev call 88 42 [l0, l1, l2, l3, l4, l5] st h = jv_ev call 88 43 [l0, l1, l2, l3, l4, l5] (.int (nI 0) :: st) h := je_iconst D88_42 rfl (by decide)
theorem D88_43 : decode (jt_code 88) 43 = .ok (.putfield 33, 3) := by decide +kernel
theorem E88_43 {call : jv_F} {l0 l1 l2 l3 l4 l5 : Option Value} {a : Nat} {v : Value} {st : List Value} {h : jv_H} (hs : (jv_pf h a 4 8 v).isSome = true) : jv_ev call 88 43 [l0, l1, l2, l3, l4, l5] (v :: .ref a :: st) h = jv_ev call 88 46 [l0, l1, l2, l3, l4, l5] st ((jv_pf h a 4 8 v).getD h) := by
  obtain ⟨h', hv⟩ := Option.isSome_iff_exists.mp hs
  rw [hv]
  exact je_put D88_43 rfl (by decide) (by decide) hv
theorem D88_46 : decode (jt_code 88) 46 = .ok (.aload_n 0, 1) := by decide +kernel
theorem E88_46 {call : jv_F} {l1 l2 l3 l4 l5 : Option Value} {a : Nat} {st : List Value} {h : jv_H} : jv_ev call 88 46 [some (.ref a), l1, l2, l3, l4, l5] st h = jv_ev call 88 47 [some (.ref a), l1, l2, l3, l4, l5] (.ref a :: st) h := je_aload_n (r := some a) D88_46 rfl rfl
theorem D88_47 : decode (jt_code 88) 47 = .ok (.sipush 400, 3) := by decide +kernel
theorem E88_47 {call : jv_F} {l0 l1 l2 l3 l4 l5 : Option Value}  {st : List Value} {h : jv_H} : jv_ev call 88 47 [l0, l1, l2, l3, l4, l5] st h = jv_ev call 88 50 [l0, l1, l2, l3, l4, l5] (.int (nI 400) :: st) h := je_sipush D88_47 rfl (by decide)
theorem D88_50 : decode (jt_code 88) 50 = .ok (.newarray .int, 2) := by decide +kernel
theorem E88_50 {call : jv_F} {l0 l1 l2 l3 l4 l5 : Option Value} {k : Nat} {st : List Value} {h : jv_H} (hk : k ≤ 100000) : jv_ev call 88 50 [l0, l1, l2, l3, l4, l5] (.int (nI k) :: st) h = jv_ev call 88 52 [l0, l1, l2, l3, l4, l5] (.ref h.2.1 :: st) (jv_newa h 0 k (.int 0)) := je_newarray D88_50 rfl (by decide) (by decide) (nI_pos (by omega)) (nI_clamp (by omega)) hk rfl
theorem D88_52 : decode (jt_code 88) 52 = .ok (.putfield 36, 3) := by decide +kernel
theorem E88_52 {call : jv_F} {l0 l1 l2 l3 l4 l5 : Option Value} {a : Nat} {v : Value} {st : List Value} {h : jv_H} (hs : (jv_pf h a 4 9 v).isSome = true) : jv_ev call 88 52 [l0, l1, l2, l3, l4, l5] (v :: .ref a :: st) h = jv_ev call 88 55 [l0, l1, l2, l3, l4, l5] st ((jv_pf h a 4 9 v).getD h) := by
  obtain ⟨h', hv⟩ := Option.isSome_iff_exists.mp hs
  rw [hv]
  exact je_put D88_52 rfl (by decide) (by decide) hv
theorem D88_55 : decode (jt_code 88) 55 = .ok (.aload_n 0, 1) := by decide +kernel
theorem E88_55 {call : jv_F} {l1 l2 l3 l4 l5 : Option Value} {a : Nat} {st : List Value} {h : jv_H} : jv_ev call 88 55 [some (.ref a), l1, l2, l3, l4, l5] st h = jv_ev call 88 56 [some (.ref a), l1, l2, l3, l4, l5] (.ref a :: st) h := je_aload_n (r := some a) D88_55 rfl rfl
theorem D88_56 : decode (jt_code 88) 56 = .ok (.iconst 0, 1) := by decide +kernel
theorem E88_56 {call : jv_F} {l0 l1 l2 l3 l4 l5 : Option Value}  {st : List Value} {h : jv_H} : jv_ev call 88 56 [l0, l1, l2, l3, l4, l5] st h = jv_ev call 88 57 [l0, l1, l2, l3, l4, l5] (.int (nI 0) :: st) h := je_iconst D88_56 rfl (by decide)
theorem D88_57 : decode (jt_code 88) 57 = .ok (.putfield 39, 3) := by decide +kernel
theorem E88_57 {call : jv_F} {l0 l1 l2 l3 l4 l5 : Option Value} {a : Nat} {v : Value} {st : List Value} {h : jv_H} (hs : (jv_pf h a 4 10 v).isSome = true) : jv_ev call 88 57 [l0, l1, l2, l3, l4, l5] (v :: .ref a :: st) h = jv_ev call 88 60 [l0, l1, l2, l3, l4, l5] st ((jv_pf h a 4 10 v).getD h) := by
  obtain ⟨h', hv⟩ := Option.isSome_iff_exists.mp hs
  rw [hv]
  exact je_put D88_57 rfl (by decide) (by decide) hv
theorem D88_60 : decode (jt_code 88) 60 = .ok (.aload_n 0, 1) := by decide +kernel
theorem E88_60 {call : jv_F} {l1 l2 l3 l4 l5 : Option Value} {a : Nat} {st : List Value} {h : jv_H} : jv_ev call 88 60 [some (.ref a), l1, l2, l3, l4, l5] st h = jv_ev call 88 61 [some (.ref a), l1, l2, l3, l4, l5] (.ref a :: st) h := je_aload_n (r := some a) D88_60 rfl rfl
theorem D88_61 : decode (jt_code 88) 61 = .ok (.iconst 0, 1) := by decide +kernel
theorem E88_61 {call : jv_F} {l0 l1 l2 l3 l4 l5 : Option Value}  {st : List Value} {h : jv_H} : jv_ev call 88 61 [l0, l1, l2, l3, l4, l5] st h = jv_ev call 88 62 [l0, l1, l2, l3, l4, l5] (.int (nI 0) :: st) h := je_iconst D88_61 rfl (by decide)
theorem D88_62 : decode (jt_code 88) 62 = .ok (.putfield 42, 3) := by decide +kernel
theorem E88_62 {call : jv_F} {l0 l1 l2 l3 l4 l5 : Option Value} {a : Nat} {v : Value} {st : List Value} {h : jv_H} (hs : (jv_pf h a 4 11 v).isSome = true) : jv_ev call 88 62 [l0, l1, l2, l3, l4, l5] (v :: .ref a :: st) h = jv_ev call 88 65 [l0, l1, l2, l3, l4, l5] st ((jv_pf h a 4 11 v).getD h) := by
  obtain ⟨h', hv⟩ := Option.isSome_iff_exists.mp hs
  rw [hv]
  exact je_put D88_62 rfl (by decide) (by decide) hv
theorem D88_65 : decode (jt_code 88) 65 = .ok (.aload_n 0, 1) := by decide +kernel
theorem E88_65 {call : jv_F} {l1 l2 l3 l4 l5 : Option Value} {a : Nat} {st : List Value} {h : jv_H} : jv_ev call 88 65 [some (.ref a), l1, l2, l3, l4, l5] st h = jv_ev call 88 66 [some (.ref a), l1, l2, l3, l4, l5] (.ref a :: st) h := je_aload_n (r := some a) D88_65 rfl rfl
theorem D88_66 : decode (jt_code 88) 66 = .ok (.iconst 0, 1) := by decide +kernel
theorem E88_66 {call : jv_F} {l0 l1 l2 l3 l4 l5 : Option Value}  {st : List Value} {h : jv_H} : jv_ev call 88 66 [l0, l1, l2, l3, l4, l5] st h = jv_ev call 88 67 [l0, l1, l2, l3, l4, l5] (.int (nI 0) :: st) h := je_iconst D88_66 rfl (by decide)
theorem D88_67 : decode (jt_code 88) 67 = .ok (.putfield 45, 3) := by decide +kernel
theorem E88_67 {call : jv_F} {l0 l1 l2 l3 l4 l5 : Option Value} {a : Nat} {v : Value} {st : List Value} {h : jv_H} (hs : (jv_pf h a 4 12 v).isSome = true) : jv_ev call 88 67 [l0, l1, l2, l3, l4, l5] (v :: .ref a :: st) h = jv_ev call 88 70 [l0, l1, l2, l3, l4, l5] st ((jv_pf h a 4 12 v).getD h) := by
  obtain ⟨h', hv⟩ := Option.isSome_iff_exists.mp hs
  rw [hv]
  exact je_put D88_67 rfl (by decide) (by decide) hv
theorem D88_70 : decode (jt_code 88) 70 = .ok (.aload_n 0, 1) := by decide +kernel
theorem E88_70 {call : jv_F} {l1 l2 l3 l4 l5 : Option Value} {a : Nat} {st : List Value} {h : jv_H} : jv_ev call 88 70 [some (.ref a), l1, l2, l3, l4, l5] st h = jv_ev call 88 71 [some (.ref a), l1, l2, l3, l4, l5] (.ref a :: st) h := je_aload_n (r := some a) D88_70 rfl rfl
theorem D88_71 : decode (jt_code 88) 71 = .ok (.iconst 0, 1) := by decide +kernel
theorem E88_71 {call : jv_F} {l0 l1 l2 l3 l4 l5 : Option Value}  {st : List Value} {h : jv_H} : jv_ev call 88 71 [l0, l1, l2, l3, l4, l5] st h = jv_ev call 88 72 [l0, l1, l2, l3, l4, l5] (.int (nI 0) :: st) h := je_iconst D88_71 rfl (by decide)
theorem D88_72 : decode (jt_code 88) 72 = .ok (.putfield 48, 3) := by decide +kernel
theorem E88_72 {call : jv_F} {l0 l1 l2 l3 l4 l5 : Option Value} {a : Nat} {v : Value} {st : List Value} {h : jv_H} (hs : (jv_pf h a 4 13 v).isSome = true) : jv_ev call 88 72 [l0, l1, l2, l3, l4, l5] (v :: .ref a :: st) h = jv_ev call 88 75 [l0, l1, l2, l3, l4, l5] st ((jv_pf h a 4 13 v).getD h) := by
  obtain ⟨h', hv⟩ := Option.isSome_iff_exists.mp hs
  rw [hv]
  exact je_put D88_72 rfl (by decide) (by decide) hv
theorem D88_75 : decode (jt_code 88) 75 = .ok (.aload_n 0, 1) := by decide +kernel
theorem E88_75 {call : jv_F} {l1 l2 l3 l4 l5 : Option Value} {a : Nat} {st : List Value} {h : jv_H} : jv_ev call 88 75 [some (.ref a), l1, l2, l3, l4, l5] st h = jv_ev call 88 76 [some (.ref a), l1, l2, l3, l4, l5] (.ref a :: st) h := je_aload_n (r := some a) D88_75 rfl rfl
theorem D88_76 : decode (jt_code 88) 76 = .ok (.aconst_null, 1) := by decide +kernel
theorem E88_76 {call : jv_F} {l0 l1 l2 l3 l4 l5 : Option Value}  {st : List Value} {h : jv_H} : jv_ev call 88 76 [l0, l1, l2, l3, l4, l5] st h = jv_ev call 88 77 [l0, l1, l2, l3, l4, l5] (.null :: st) h := je_null D88_76 rfl
theorem D88_77 : decode (jt_code 88) 77 = .ok (.putfield 52, 3) := by decide +kernel
theorem E88_77 {call : jv_F} {l0 l1 l2 l3 l4 l5 : Option Value} {a : Nat} {v : Value} {st : List Value} {h : jv_H} (hs : (jv_pf h a 4 14 v).isSome = true) : jv_ev call 88 77 [l0, l1, l2, l3, l4, l5] (v :: .ref a :: st) h = jv_ev call 88 80 [l0, l1, l2, l3, l4, l5] st ((jv_pf h a 4 14 v).getD h) := by
  obtain ⟨h', hv⟩ := Option.isSome_iff_exists.mp hs
  rw [hv]
  exact je_put D88_77 rfl (by decide) (by decide) hv
theorem D88_80 : decode (jt_code 88) 80 = .ok (.aload_n 0, 1) := by decide +kernel
theorem E88_80 {call : jv_F} {l1 l2 l3 l4 l5 : Option Value} {a : Nat} {st : List Value} {h : jv_H} : jv_ev call 88 80 [some (.ref a), l1, l2, l3, l4, l5] st h = jv_ev call 88 81 [some (.ref a), l1, l2, l3, l4, l5] (.ref a :: st) h := je_aload_n (r := some a) D88_80 rfl rfl
theorem D88_81 : decode (jt_code 88) 81 = .ok (.iconst 0, 1) := by decide +kernel
theorem E88_81 {call : jv_F} {l0 l1 l2 l3 l4 l5 : Option Value}  {st : List Value} {h : jv_H} : jv_ev call 88 81 [l0, l1, l2, l3, l4, l5] st h = jv_ev call 88 82 [l0, l1, l2, l3, l4, l5] (.int (nI 0) :: st) h := je_iconst D88_81 rfl (by decide)
theorem D88_82 : decode (jt_code 88) 82 = .ok (.putfield 56, 3) := by decide +kernel
theorem E88_82 {call : jv_F} {l0 l1 l2 l3 l4 l5 : Option Value} {a : Nat} {v : Value} {st : List Value} {h : jv_H} (hs : (jv_pf h a 4 15 v).isSome = true) : jv_ev call 88 82 [l0, l1, l2, l3, l4, l5] (v :: .ref a :: st) h = jv_ev call 88 85 [l0, l1, l2, l3, l4, l5] st ((jv_pf h a 4 15 v).getD h) := by
  obtain ⟨h', hv⟩ := Option.isSome_iff_exists.mp hs
  rw [hv]
  exact je_put D88_82 rfl (by decide) (by decide) hv
theorem D88_85 : decode (jt_code 88) 85 = .ok (.aload_n 0, 1) := by decide +kernel
theorem E88_85 {call : jv_F} {l1 l2 l3 l4 l5 : Option Value} {a : Nat} {st : List Value} {h : jv_H} : jv_ev call 88 85 [some (.ref a), l1, l2, l3, l4, l5] st h = jv_ev call 88 86 [some (.ref a), l1, l2, l3, l4, l5] (.ref a :: st) h := je_aload_n (r := some a) D88_85 rfl rfl
theorem D88_86 : decode (jt_code 88) 86 = .ok (.iload_n 1, 1) := by decide +kernel
theorem E88_86 {call : jv_F} {l0 l2 l3 l4 l5 : Option Value} {x : Int32} {st : List Value} {h : jv_H} : jv_ev call 88 86 [l0, some (.int x), l2, l3, l4, l5] st h = jv_ev call 88 87 [l0, some (.int x), l2, l3, l4, l5] (.int x :: st) h := je_iload_n D88_86 rfl rfl
theorem D88_87 : decode (jt_code 88) 87 = .ok (.putfield 59, 3) := by decide +kernel
theorem E88_87 {call : jv_F} {l0 l1 l2 l3 l4 l5 : Option Value} {a : Nat} {v : Value} {st : List Value} {h : jv_H} (hs : (jv_pf h a 4 0 v).isSome = true) : jv_ev call 88 87 [l0, l1, l2, l3, l4, l5] (v :: .ref a :: st) h = jv_ev call 88 90 [l0, l1, l2, l3, l4, l5] st ((jv_pf h a 4 0 v).getD h) := by
  obtain ⟨h', hv⟩ := Option.isSome_iff_exists.mp hs
  rw [hv]
  exact je_put D88_87 rfl (by decide) (by decide) hv
theorem D88_90 : decode (jt_code 88) 90 = .ok (.aload_n 0, 1) := by decide +kernel
theorem E88_90 {call : jv_F} {l1 l2 l3 l4 l5 : Option Value} {a : Nat} {st : List Value} {h : jv_H} : jv_ev call 88 90 [some (.ref a), l1, l2, l3, l4, l5] st h = jv_ev call 88 91 [some (.ref a), l1, l2, l3, l4, l5] (.ref a :: st) h := je_aload_n (r := some a) D88_90 rfl rfl
theorem D88_91 : decode (jt_code 88) 91 = .ok (.iload_n 2, 1) := by decide +kernel
theorem E88_91 {call : jv_F} {l0 l1 l3 l4 l5 : Option Value} {x : Int32} {st : List Value} {h : jv_H} : jv_ev call 88 91 [l0, l1, some (.int x), l3, l4, l5] st h = jv_ev call 88 92 [l0, l1, some (.int x), l3, l4, l5] (.int x :: st) h := je_iload_n D88_91 rfl rfl
theorem D88_92 : decode (jt_code 88) 92 = .ok (.putfield 62, 3) := by decide +kernel
theorem E88_92 {call : jv_F} {l0 l1 l2 l3 l4 l5 : Option Value} {a : Nat} {v : Value} {st : List Value} {h : jv_H} (hs : (jv_pf h a 4 1 v).isSome = true) : jv_ev call 88 92 [l0, l1, l2, l3, l4, l5] (v :: .ref a :: st) h = jv_ev call 88 95 [l0, l1, l2, l3, l4, l5] st ((jv_pf h a 4 1 v).getD h) := by
  obtain ⟨h', hv⟩ := Option.isSome_iff_exists.mp hs
  rw [hv]
  exact je_put D88_92 rfl (by decide) (by decide) hv
theorem D88_95 : decode (jt_code 88) 95 = .ok (.iconst 0, 1) := by decide +kernel
theorem E88_95 {call : jv_F} {l0 l1 l2 l3 l4 l5 : Option Value}  {st : List Value} {h : jv_H} : jv_ev call 88 95 [l0, l1, l2, l3, l4, l5] st h = jv_ev call 88 96 [l0, l1, l2, l3, l4, l5] (.int (nI 0) :: st) h := je_iconst D88_95 rfl (by decide)
theorem D88_96 : decode (jt_code 88) 96 = .ok (.istore 5, 2) := by decide +kernel
theorem E88_96 {call : jv_F} {l0 l1 l2 l3 l4 l5 : Option Value} {x : Int32} {st : List Value} {h : jv_H} (hk : ¬ jv_is2 (some l4) = true) : jv_ev call 88 96 [l0, l1, l2, l3, l4, l5] (.int x :: st) h = jv_ev call 88 98 [l0, l1, l2, l3, l4, some (.int x)] st h := je_istore D88_96 rfl (Nat.le_of_ble_eq_true rfl) (by show jv_st1 _ 5 _ = _; simp only [jv_st1, jv_kill, List.getElem?_cons_succ, List.getElem?_cons_zero, hk, if_false]; rfl)
theorem D88_98 : decode (jt_code 88) 98 = .ok (.iload 5, 2) := by decide +kernel
theorem E88_98 {call : jv_F} {l0 l1 l2 l3 l4 : Option Value} {x : Int32} {st : List Value} {h : jv_H} : jv_ev call 88 98 [l0, l1, l2, l3, l4, some (.int x)] st h = jv_ev call 88 100 [l0, l1, l2, l3, l4, some (.int x)] (.int x :: st) h := je_iload D88_98 rfl rfl
theorem D88_100 : decode (jt_code 88) 100 = .ok (.iload 4, 2) := by decide +kernel
theorem E88_100 {call : jv_F} {l0 l1 l2 l3 l5 : Option Value} {x : Int32} {st : List Value} {h : jv_H} : jv_ev call 88 100 [l0, l1, l2, l3, some (.int x), l5] st h = jv_ev call 88 102 [l0, l1, l2, l3, some (.int x), l5] (.int x :: st) h := je_iload D88_100 rfl rfl
theorem D88_102 : decode (jt_code 88) 102 = .ok (.if_icmp .ge 31, 3) := by decide +kernel
theorem E88_102 {call : jv_F} {l0 l1 l2 l3 l4 l5 : Option Value} {x y : Int32} {st : List Value} {h : jv_H} : jv_ev call 88 102 [l0, l1, l2, l3, l4, l5] (.int y :: .int x :: st) h = if y ≤ x then jv_ev call 88 133 [l0, l1, l2, l3, l4, l5] st h else jv_ev call 88 105 [l0, l1, l2, l3, l4, l5] st h := je_icmp D88_102 (by decide) rfl rfl
theorem D88_105 : decode (jt_code 88) 105 = .ok (.iload 5, 2) := by decide +kernel
theorem E88_105 {call : jv_F} {l0 l1 l2 l3 l4 : Option Value} {x : Int32} {st : List Value} {h : jv_H} : jv_ev call 88 105 [l0, l1, l2, l3, l4, some (.int x)] st h = jv_ev call 88 107 [l0, l1, l2, l3, l4, some (.int x)] (.int x :: st) h := je_iload D88_105 rfl rfl
theorem D88_107 : decode (jt_code 88) 107 = .ok (.sipush 1000, 3) := by decide +kernel
theorem E88_107 {call : jv_F} {l0 l1 l2 l3 l4 l5 : Option Value}  {st : List Value} {h : jv_H} : jv_ev call 88 107 [l0, l1, l2, l3, l4, l5] st h = jv_ev call 88 110 [l0, l1, l2, l3, l4, l5] (.int (nI 1000) :: st) h := je_sipush D88_107 rfl (by decide)
theorem D88_110 : decode (jt_code 88) 110 = .ok (.if_icmp .ge 23, 3) := by decide +kernel
theorem E88_110 {call : jv_F} {l0 l1 l2 l3 l4 l5 : Option Value} {x y : Int32} {st : List Value} {h : jv_H} : jv_ev call 88 110 [l0, l1, l2, l3, l4, l5] (.int y :: .int x :: st) h = if y ≤ x then jv_ev call 88 133 [l0, l1, l2, l3, l4, l5] st h else jv_ev call 88 113 [l0, l1, l2, l3, l4, l5] st h := je_icmp D88_110 (by decide) rfl rfl
theorem D88_113 : decode (jt_code 88) 113 = .ok (.aload_n 0, 1) := by decide +kernel
theorem E88_113 {call : jv_F} {l1 l2 l3 l4 l5 : Option Value} {a : Nat} {st : List Value} {h : jv_H} : jv_ev call 88 113 [some (.ref a), l1, l2, l3, l4, l5] st h = jv_ev call 88 114 [some (.ref a), l1, l2, l3, l4, l5] (.ref a :: st) h := je_aload_n (r := some a) D88_113 rfl rfl
theorem D88_114 : decode (jt_code 88) 114 = .ok (.getfield 23, 3) := by decide +kernel
theorem E88_114 {call : jv_F} {l0 l1 l2 l3 l4 l5 : Option Value} {a : Nat} {st : List Value} {h : jv_H} (hs : (jv_gf h a 4 5).isSome = true) : jv_ev call 88 114 [l0, l1, l2, l3, l4, l5] (.ref a :: st) h = jv_ev call 88 117 [l0, l1, l2, l3, l4, l5] ((jv_gf h a 4 5).getD .null :: st) h := by
  obtain ⟨v, hv⟩ := Option.isSome_iff_exists.mp hs
  rw [hv]
  exact je_get D88_114 rfl (by decide) hv
theorem D88_117 : decode (jt_code 88) 117 = .ok (.iload 5, 2) := by decide +kernel
theorem E88_117 {call : jv_F} {l0 l1 l2 l3 l4 : Option Value} {x : Int32} {st : List Value} {h : jv_H} : jv_ev call 88 117 [l0, l1, l2, l3, l4, some (.int x)] st h = jv_ev call 88 119 [l0, l1, l2, l3, l4, some (.int x)] (.int x :: st) h := je_iload D88_117 rfl rfl
theorem D88_119 : decode (jt_code 88) 119 = .ok (.aload_n 3, 1) := by decide +kernel
theorem E88_119 {call : jv_F} {l0 l1 l2 l4 l5 : Option Value} {a : Nat} {st : List Value} {h : jv_H} : jv_ev call 88 119 [l0, l1, l2, some (.ref a), l4, l5] st h = jv_ev call 88 120 [l0, l1, l2, some (.ref a), l4, l5] (.ref a :: st) h := je_aload_n (r := some a) D88_119 rfl rfl
theorem E88_119r {call : jv_F} {l0 l1 l2 l4 l5 : Option Value} {r : Option Nat} {st : List Value} {h : jv_H} : jv_ev call 88 119 [l0, l1, l2, some (va_rf r), l4, l5] st h = jv_ev call 88 120 [l0, l1, l2, some (va_rf r), l4, l5] (va_rf r :: st) h := je_aload_n (r := r) D88_119 rfl rfl
theorem D88_120 : decode (jt_code 88) 120 = .ok (.getfield 65, 3) := by decide +kernel
theorem E88_120 {call : jv_F} {l0 l1 l2 l3 l4 l5 : Option Value} {a : Nat} {st : List Value} {h : jv_H} (hs : (jv_gf h a 5 0).isSome = true) : jv_ev call 88 120 [l0, l1, l2, l3, l4, l5] (.ref a :: st) h = jv_ev call 88 123 [l0, l1, l2, l3, l4, l5] ((jv_gf h a 5 0).getD .null :: st) h := by
  obtain ⟨v, hv⟩ := Option.isSome_iff_exists.mp hs
  rw [hv]
  exact je_get D88_120 rfl (by decide) hv
theorem D88_123 : decode (jt_code 88) 123 = .ok (.iload 5, 2) := by decide +kernel
theorem E88_123 {call : jv_F} {l0 l1 l2 l3 l4 : Option Value} {x : Int32} {st : List Value} {h : jv_H} : jv_ev call 88 123 [l0, l1, l2, l3, l4, some (.int x)] st h = jv_ev call 88 125 [l0, l1, l2, l3, l4, some (.int x)] (.int x :: st) h := je_iload D88_123 rfl rfl
theorem D88_125 : decode (jt_code 88) 125 = .ok (.laload, 1) := by decide +kernel
theorem E88_125 {call : jv_F} {l0 l1 l2 l3 l4 l5 : Option Value} {a : Nat} {j : Int32} {st : List Value} {h : jv_H} (hs : (jv_al h a .long j).isSome = true) : jv_ev call 88 125 [l0, l1, l2, l3, l4, l5] (.int j :: .ref a :: st) h = jv_ev call 88 126 [l0, l1, l2, l3, l4, l5] ((jv_al h a .long j).getD .null :: st) h := by
  obtain ⟨v, hv⟩ := Option.isSome_iff_exists.mp hs
  rw [hv]
  exact je_lald D88_125 rfl hv
theorem D88_126 : decode (jt_code 88) 126 = .ok (.lastore, 1) := by decide +kernel
theorem E88_126 {call : jv_F} {l0 l1 l2 l3 l4 l5 : Option Value} {a : Nat} {j : Int32} {x : Int64} {st : List Value} {h : jv_H} (hs : (jv_as h a .long j (.long x)).isSome = true) : jv_ev call 88 126 [l0, l1, l2, l3, l4, l5] (.long x :: .int j :: .ref a :: st) h = jv_ev call 88 127 [l0, l1, l2, l3, l4, l5] st ((jv_as h a .long j (.long x)).getD h) := by
  obtain ⟨h', hv⟩ := Option.isSome_iff_exists.mp hs
  rw [hv]
  exact je_last D88_126 rfl hv
theorem D88_127 : decode (jt_code 88) 127 = .ok (.iinc 5 1, 3) := by decide +kernel
theorem E88_127 {call : jv_F} {l0 l1 l2 l3 l4 : Option Value} {x : Int32} {st : List Value} {h : jv_H} (hk : ¬ jv_is2 (some l4) = true) : jv_ev call 88 127 [l0, l1, l2, l3, l4, some (.int x)] st h = jv_ev call 88 130 [l0, l1, l2, l3, l4, some (.int (x + (nI 1)))] st h := je_iinc D88_127 rfl rfl (v := x + (nI 1)) (by rfl) (by show jv_st1 _ 5 _ = _; simp only [jv_st1, jv_kill, List.getElem?_cons_succ, List.getElem?_cons_zero, hk, if_false]; rfl)
theorem D88_130 : decode (jt_code 88) 130 = .ok (.goto (-32), 3) := by decide +kernel
theorem E88_130 {call : jv_F} {l0 l1 l2 l3 l4 l5 : Option Value}  {st : List Value} {h : jv_H} : jv_ev call 88 130 [l0, l1, l2, l3, l4, l5] st h = jv_ev call 88 98 [l0, l1, l2, l3, l4, l5] st h := je_goto D88_130 (by decide)
theorem D88_133 : decode (jt_code 88) 133 = .ok (.aload_n 0, 1) := by decide +kernel
theorem E88_133 {call : jv_F} {l1 l2 l3 l4 l5 : Option Value} {a : Nat} {st : List Value} {h : jv_H} : jv_ev call 88 133 [some (.ref a), l1, l2, l3, l4, l5] st h = jv_ev call 88 134 [some (.ref a), l1, l2, l3, l4, l5] (.ref a :: st) h := je_aload_n (r := some a) D88_133 rfl rfl
theorem D88_134 : decode (jt_code 88) 134 = .ok (.aload_n 3, 1) := by decide +kernel
theorem E88_134 {call : jv_F} {l0 l1 l2 l4 l5 : Option Value} {a : Nat} {st : List Value} {h : jv_H} : jv_ev call 88 134 [l0, l1, l2, some (.ref a), l4, l5] st h = jv_ev call 88 135 [l0, l1, l2, some (.ref a), l4, l5] (.ref a :: st) h := je_aload_n (r := some a) D88_134 rfl rfl
theorem E88_134r {call : jv_F} {l0 l1 l2 l4 l5 : Option Value} {r : Option Nat} {st : List Value} {h : jv_H} : jv_ev call 88 134 [l0, l1, l2, some (va_rf r), l4, l5] st h = jv_ev call 88 135 [l0, l1, l2, some (va_rf r), l4, l5] (va_rf r :: st) h := je_aload_n (r := r) D88_134 rfl rfl
theorem D88_135 : decode (jt_code 88) 135 = .ok (.getfield 70, 3) := by decide +kernel
theorem E88_135 {call : jv_F} {l0 l1 l2 l3 l4 l5 : Option Value} {a : Nat} {st : List Value} {h : jv_H} (hs : (jv_gf h a 5 3).isSome = true) : jv_ev call 88 135 [l0, l1, l2, l3, l4, l5] (.ref a :: st) h = jv_ev call 88 138 [l0, l1, l2, l3, l4, l5] ((jv_gf h a 5 3).getD .null :: st) h := by
  obtain ⟨v, hv⟩ := Option.isSome_iff_exists.mp hs
  rw [hv]
  exact je_get D88_135 rfl (by decide) hv
theorem D88_138 : decode (jt_code 88) 138 = .ok (.iconst 0, 1) := by decide +kernel
theorem E88_138 {call : jv_F} {l0 l1 l2 l3 l4 l5 : Option Value}  {st : List Value} {h : jv_H} : jv_ev call 88 138 [l0, l1, l2, l3, l4, l5] st h = jv_ev call 88 139 [l0, l1, l2, l3, l4, l5] (.int (nI 0) :: st) h := je_iconst D88_138 rfl (by decide)
theorem D88_139 : decode (jt_code 88) 139 = .ok (.invokestatic 73, 3) := by decide +kernel
theorem E88_139 {call : jv_F} {l0 l1 l2 l3 l4 l5 : Option Value} {v0 v1 : Value}  {st : List Value} {h : jv_H} (hw : jv_wide st = true) (hc : (call 156 [v0, v1] h).isSome = true) : jv_ev call 88 139 [l0, l1, l2, l3, l4, l5] (v1 :: v0 :: st) h = jv_ev call 88 142 [l0, l1, l2, l3, l4, l5] ((((call 156 [v0, v1] h).getD (none, h)).1).toList ++ st) ((call 156 [v0, v1] h).getD (none, h)).2 := by
  obtain ⟨⟨r, h'⟩, hv⟩ := Option.isSome_iff_exists.mp hc
  rw [hv]
  exact je_stat (y := 156) (as := [v0, v1]) D88_139 rfl (by decide) (by decide) rfl hw hv
theorem D88_142 : decode (jt_code 88) 142 = .ok (.newarray .int, 2) := by decide +kernel
theorem E88_142 {call : jv_F} {l0 l1 l2 l3 l4 l5 : Option Value} {k : Nat} {st : List Value} {h : jv_H} (hk : k ≤ 100000) : jv_ev call 88 142 [l0, l1, l2, l3, l4, l5] (.int (nI k) :: st) h = jv_ev call 88 144 [l0, l1, l2, l3, l4, l5] (.ref h.2.1 :: st) (jv_newa h 0 k (.int 0)) := je_newarray D88_142 rfl (by decide) (by decide) (nI_pos (by omega)) (nI_clamp (by omega)) hk rfl
theorem D88_144 : decode (jt_code 88) 144 = .ok (.putfield 79, 3) := by decide +kernel
theorem E88_144 {call : jv_F} {l0 l1 l2 l3 l4 l5 : Option Value} {a : Nat} {v : Value} {st : List Value} {h : jv_H} (hs : (jv_pf h a 4 7 v).isSome = true) : jv_ev call 88 144 [l0, l1, l2, l3, l4, l5] (v :: .ref a :: st) h = jv_ev call 88 147 [l0, l1, l2, l3, l4, l5] st ((jv_pf h a 4 7 v).getD h) := by
  obtain ⟨h', hv⟩ := Option.isSome_iff_exists.mp hs
  rw [hv]
  exact je_put D88_144 rfl (by decide) (by decide) hv
theorem D88_147 : decode (jt_code 88) 147 = .ok (.iconst 0, 1) := by decide +kernel
theorem E88_147 {call : jv_F} {l0 l1 l2 l3 l4 l5 : Option Value}  {st : List Value} {h : jv_H} : jv_ev call 88 147 [l0, l1, l2, l3, l4, l5] st h = jv_ev call 88 148 [l0, l1, l2, l3, l4, l5] (.int (nI 0) :: st) h := je_iconst D88_147 rfl (by decide)
theorem D88_148 : decode (jt_code 88) 148 = .ok (.istore 5, 2) := by decide +kernel
theorem E88_148 {call : jv_F} {l0 l1 l2 l3 l4 l5 : Option Value} {x : Int32} {st : List Value} {h : jv_H} (hk : ¬ jv_is2 (some l4) = true) : jv_ev call 88 148 [l0, l1, l2, l3, l4, l5] (.int x :: st) h = jv_ev call 88 150 [l0, l1, l2, l3, l4, some (.int x)] st h := je_istore D88_148 rfl (Nat.le_of_ble_eq_true rfl) (by show jv_st1 _ 5 _ = _; simp only [jv_st1, jv_kill, List.getElem?_cons_succ, List.getElem?_cons_zero, hk, if_false]; rfl)
theorem D88_150 : decode (jt_code 88) 150 = .ok (.iload 5, 2) := by decide +kernel
theorem E88_150 {call : jv_F} {l0 l1 l2 l3 l4 : Option Value} {x : Int32} {st : List Value} {h : jv_H} : jv_ev call 88 150 [l0, l1, l2, l3, l4, some (.int x)] st h = jv_ev call 88 152 [l0, l1, l2, l3, l4, some (.int x)] (.int x :: st) h := je_iload D88_150 rfl rfl
theorem D88_152 : decode (jt_code 88) 152 = .ok (.aload_n 0, 1) := by decide +kernel
theorem E88_152 {call : jv_F} {l1 l2 l3 l4 l5 : Option Value} {a : Nat} {st : List Value} {h : jv_H} : jv_ev call 88 152 [some (.ref a), l1, l2, l3, l4, l5] st h = jv_ev call 88 153 [some (.ref a), l1, l2, l3, l4, l5] (.ref a :: st) h := je_aload_n (r := some a) D88_152 rfl rfl
theorem D88_153 : decode (jt_code 88) 153 = .ok (.getfield 79, 3) := by decide +kernel
theorem E88_153 {call : jv_F} {l0 l1 l2 l3 l4 l5 : Option Value} {a : Nat} {st : List Value} {h : jv_H} (hs : (jv_gf h a 4 7).isSome = true) : jv_ev call 88 153 [l0, l1, l2, l3, l4, l5] (.ref a :: st) h = jv_ev call 88 156 [l0, l1, l2, l3, l4, l5] ((jv_gf h a 4 7).getD .null :: st) h := by
  obtain ⟨v, hv⟩ := Option.isSome_iff_exists.mp hs
  rw [hv]
  exact je_get D88_153 rfl (by decide) hv
theorem D88_156 : decode (jt_code 88) 156 = .ok (.arraylength, 1) := by decide +kernel
theorem E88_156 {call : jv_F} {l0 l1 l2 l3 l4 l5 : Option Value} {a : Nat} {st : List Value} {h : jv_H} (hs : (jv_ln h a).isSome = true) : jv_ev call 88 156 [l0, l1, l2, l3, l4, l5] (.ref a :: st) h = jv_ev call 88 157 [l0, l1, l2, l3, l4, l5] (.int (nI ((jv_ln h a).getD 0)) :: st) h := by
  obtain ⟨v, hv⟩ := Option.isSome_iff_exists.mp hs
  rw [hv]
  exact je_alen D88_156 rfl hv
theorem D88_157 : decode (jt_code 88) 157 = .ok (.if_icmp .ge 31, 3) := by decide +kernel
theorem E88_157 {call : jv_F} {l0 l1 l2 l3 l4 l5 : Option Value} {x y : Int32} {st : List Value} {h : jv_H} : jv_ev call 88 157 [l0, l1, l2, l3, l4, l5] (.int y :: .int x :: st) h = if y ≤ x then jv_ev call 88 188 [l0, l1, l2, l3, l4, l5] st h else jv_ev call 88 160 [l0, l1, l2, l3, l4, l5] st h := je_icmp D88_157 (by decide) rfl rfl
theorem D88_160 : decode (jt_code 88) 160 = .ok (.iload 5, 2) := by decide +kernel
theorem E88_160 {call : jv_F} {l0 l1 l2 l3 l4 : Option Value} {x : Int32} {st : List Value} {h : jv_H} : jv_ev call 88 160 [l0, l1, l2, l3, l4, some (.int x)] st h = jv_ev call 88 162 [l0, l1, l2, l3, l4, some (.int x)] (.int x :: st) h := je_iload D88_160 rfl rfl
theorem D88_162 : decode (jt_code 88) 162 = .ok (.sipush 2000, 3) := by decide +kernel
theorem E88_162 {call : jv_F} {l0 l1 l2 l3 l4 l5 : Option Value}  {st : List Value} {h : jv_H} : jv_ev call 88 162 [l0, l1, l2, l3, l4, l5] st h = jv_ev call 88 165 [l0, l1, l2, l3, l4, l5] (.int (nI 2000) :: st) h := je_sipush D88_162 rfl (by decide)
theorem D88_165 : decode (jt_code 88) 165 = .ok (.if_icmp .ge 23, 3) := by decide +kernel
theorem E88_165 {call : jv_F} {l0 l1 l2 l3 l4 l5 : Option Value} {x y : Int32} {st : List Value} {h : jv_H} : jv_ev call 88 165 [l0, l1, l2, l3, l4, l5] (.int y :: .int x :: st) h = if y ≤ x then jv_ev call 88 188 [l0, l1, l2, l3, l4, l5] st h else jv_ev call 88 168 [l0, l1, l2, l3, l4, l5] st h := je_icmp D88_165 (by decide) rfl rfl
theorem D88_168 : decode (jt_code 88) 168 = .ok (.aload_n 0, 1) := by decide +kernel
theorem E88_168 {call : jv_F} {l1 l2 l3 l4 l5 : Option Value} {a : Nat} {st : List Value} {h : jv_H} : jv_ev call 88 168 [some (.ref a), l1, l2, l3, l4, l5] st h = jv_ev call 88 169 [some (.ref a), l1, l2, l3, l4, l5] (.ref a :: st) h := je_aload_n (r := some a) D88_168 rfl rfl
theorem D88_169 : decode (jt_code 88) 169 = .ok (.getfield 79, 3) := by decide +kernel
theorem E88_169 {call : jv_F} {l0 l1 l2 l3 l4 l5 : Option Value} {a : Nat} {st : List Value} {h : jv_H} (hs : (jv_gf h a 4 7).isSome = true) : jv_ev call 88 169 [l0, l1, l2, l3, l4, l5] (.ref a :: st) h = jv_ev call 88 172 [l0, l1, l2, l3, l4, l5] ((jv_gf h a 4 7).getD .null :: st) h := by
  obtain ⟨v, hv⟩ := Option.isSome_iff_exists.mp hs
  rw [hv]
  exact je_get D88_169 rfl (by decide) hv
theorem D88_172 : decode (jt_code 88) 172 = .ok (.iload 5, 2) := by decide +kernel
theorem E88_172 {call : jv_F} {l0 l1 l2 l3 l4 : Option Value} {x : Int32} {st : List Value} {h : jv_H} : jv_ev call 88 172 [l0, l1, l2, l3, l4, some (.int x)] st h = jv_ev call 88 174 [l0, l1, l2, l3, l4, some (.int x)] (.int x :: st) h := je_iload D88_172 rfl rfl
theorem D88_174 : decode (jt_code 88) 174 = .ok (.aload_n 3, 1) := by decide +kernel
theorem E88_174 {call : jv_F} {l0 l1 l2 l4 l5 : Option Value} {a : Nat} {st : List Value} {h : jv_H} : jv_ev call 88 174 [l0, l1, l2, some (.ref a), l4, l5] st h = jv_ev call 88 175 [l0, l1, l2, some (.ref a), l4, l5] (.ref a :: st) h := je_aload_n (r := some a) D88_174 rfl rfl
theorem E88_174r {call : jv_F} {l0 l1 l2 l4 l5 : Option Value} {r : Option Nat} {st : List Value} {h : jv_H} : jv_ev call 88 174 [l0, l1, l2, some (va_rf r), l4, l5] st h = jv_ev call 88 175 [l0, l1, l2, some (va_rf r), l4, l5] (va_rf r :: st) h := je_aload_n (r := r) D88_174 rfl rfl
theorem D88_175 : decode (jt_code 88) 175 = .ok (.getfield 82, 3) := by decide +kernel
theorem E88_175 {call : jv_F} {l0 l1 l2 l3 l4 l5 : Option Value} {a : Nat} {st : List Value} {h : jv_H} (hs : (jv_gf h a 5 1).isSome = true) : jv_ev call 88 175 [l0, l1, l2, l3, l4, l5] (.ref a :: st) h = jv_ev call 88 178 [l0, l1, l2, l3, l4, l5] ((jv_gf h a 5 1).getD .null :: st) h := by
  obtain ⟨v, hv⟩ := Option.isSome_iff_exists.mp hs
  rw [hv]
  exact je_get D88_175 rfl (by decide) hv
theorem D88_178 : decode (jt_code 88) 178 = .ok (.iload 5, 2) := by decide +kernel
theorem E88_178 {call : jv_F} {l0 l1 l2 l3 l4 : Option Value} {x : Int32} {st : List Value} {h : jv_H} : jv_ev call 88 178 [l0, l1, l2, l3, l4, some (.int x)] st h = jv_ev call 88 180 [l0, l1, l2, l3, l4, some (.int x)] (.int x :: st) h := je_iload D88_178 rfl rfl
theorem D88_180 : decode (jt_code 88) 180 = .ok (.iaload, 1) := by decide +kernel
theorem E88_180 {call : jv_F} {l0 l1 l2 l3 l4 l5 : Option Value} {a : Nat} {j : Int32} {st : List Value} {h : jv_H} (hs : (jv_al h a .int j).isSome = true) : jv_ev call 88 180 [l0, l1, l2, l3, l4, l5] (.int j :: .ref a :: st) h = jv_ev call 88 181 [l0, l1, l2, l3, l4, l5] ((jv_al h a .int j).getD .null :: st) h := by
  obtain ⟨v, hv⟩ := Option.isSome_iff_exists.mp hs
  rw [hv]
  exact je_iald D88_180 rfl hv
theorem D88_181 : decode (jt_code 88) 181 = .ok (.iastore, 1) := by decide +kernel
theorem E88_181 {call : jv_F} {l0 l1 l2 l3 l4 l5 : Option Value} {a : Nat} {j : Int32} {x : Int32} {st : List Value} {h : jv_H} (hs : (jv_as h a .int j (.int x)).isSome = true) : jv_ev call 88 181 [l0, l1, l2, l3, l4, l5] (.int x :: .int j :: .ref a :: st) h = jv_ev call 88 182 [l0, l1, l2, l3, l4, l5] st ((jv_as h a .int j (.int x)).getD h) := by
  obtain ⟨h', hv⟩ := Option.isSome_iff_exists.mp hs
  rw [hv]
  exact je_iast D88_181 rfl hv
theorem D88_182 : decode (jt_code 88) 182 = .ok (.iinc 5 1, 3) := by decide +kernel
theorem E88_182 {call : jv_F} {l0 l1 l2 l3 l4 : Option Value} {x : Int32} {st : List Value} {h : jv_H} (hk : ¬ jv_is2 (some l4) = true) : jv_ev call 88 182 [l0, l1, l2, l3, l4, some (.int x)] st h = jv_ev call 88 185 [l0, l1, l2, l3, l4, some (.int (x + (nI 1)))] st h := je_iinc D88_182 rfl rfl (v := x + (nI 1)) (by rfl) (by show jv_st1 _ 5 _ = _; simp only [jv_st1, jv_kill, List.getElem?_cons_succ, List.getElem?_cons_zero, hk, if_false]; rfl)
theorem D88_185 : decode (jt_code 88) 185 = .ok (.goto (-35), 3) := by decide +kernel
theorem E88_185 {call : jv_F} {l0 l1 l2 l3 l4 l5 : Option Value}  {st : List Value} {h : jv_H} : jv_ev call 88 185 [l0, l1, l2, l3, l4, l5] st h = jv_ev call 88 150 [l0, l1, l2, l3, l4, l5] st h := je_goto D88_185 (by decide)
theorem D88_188 : decode (jt_code 88) 188 = .ok (.return_, 1) := by decide +kernel
theorem E88_188 {call : jv_F} {l0 l1 l2 l3 l4 l5 : Option Value}  {h : jv_H} : jv_ev call 88 188 [l0, l1, l2, l3, l4, l5] [] h = some (none, h) := je_ret D88_188 rfl
/-! method 140: DrumMachine.activate -/
theorem N140 {d : Nat} {b : Nat} {h : jv_H} : jv_run (d + 1) 140 [.ref b] h = jv_ev (jv_run d) 140 0 [some (.ref b), none, none, none] [] h := jv_run_eq (Nat.le_of_ble_eq_true rfl) rfl
theorem D140_0 : decode (jt_code 140) 0 = .ok (.aload_n 0, 1) := by decide +kernel
theorem E140_0 {call : jv_F} {l1 l2 l3 : Option Value} {a : Nat} {st : List Value} {h : jv_H} : jv_ev call 140 0 [some (.ref a), l1, l2, l3] st h = jv_ev call 140 1 [some (.ref a), l1, l2, l3] (.ref a :: st) h := je_aload_n (r := some a) D140_0 rfl rfl
theorem D140_1 : decode (jt_code 140) 1 = .ok (.getfield 19, 3) := by decide +kernel
theorem E140_1 {call : jv_F} {l0 l1 l2 l3 : Option Value} {a : Nat} {st : List Value} {h : jv_H} (hs : (jv_gf h a 6 1).isSome = true) : jv_ev call 140 1 [l0, l1, l2, l3] (.ref a :: st) h = jv_ev call 140 4 [l0, l1, l2, l3] ((jv_gf h a 6 1).getD .null :: st) h := by
  obtain ⟨v, hv⟩ := Option.isSome_iff_exists.mp hs
  rw [hv]
  exact je_get D140_1 rfl (by decide) hv
theorem D140_4 : decode (jt_code 140) 4 = .ok (.invokevirtual 146, 3) := by decide +kernel
theorem E140_4 {call : jv_F} {l0 l1 l2 l3 : Option Value} {b : Nat}  {st : List Value} {h : jv_H} (hw : jv_wide st = true) (hcl : jv_cl h b = some 2) (hc : (call 68 [.ref b] h).isSome = true) : jv_ev call 140 4 [l0, l1, l2, l3] (.ref b :: st) h = jv_ev call 140 7 [l0, l1, l2, l3] ((((call 68 [.ref b] h).getD (none, h)).1).toList ++ st) ((call 68 [.ref b] h).getD (none, h)).2 := by
  obtain ⟨⟨r, h'⟩, hv⟩ := Option.isSome_iff_exists.mp hc
  rw [hv]
  exact je_virt (y := 68) (as := []) D140_4 rfl (by decide) (by decide) rfl hcl hw hv
theorem D140_7 : decode (jt_code 140) 7 = .ok (.istore_n 1, 1) := by decide +kernel
theorem E140_7 {call : jv_F} {l0 l1 l2 l3 : Option Value} {x : Int32} {st : List Value} {h : jv_H} (hk : ¬ jv_is2 (some l0) = true) : jv_ev call 140 7 [l0, l1, l2, l3] (.int x :: st) h = jv_ev call 140 8 [l0, some (.int x), l2, l3] st h := je_istore_n D140_7 rfl (Nat.le_of_ble_eq_true rfl) (by show jv_st1 _ 1 _ = _; simp only [jv_st1, jv_kill, List.getElem?_cons_succ, List.getElem?_cons_zero, hk, if_false]; rfl)
theorem D140_8 : decode (jt_code 140) 8 = .ok (.iconst 0, 1) := by decide +kernel
theorem E140_8 {call : jv_F} {l0 l1 l2 l3 : Option Value}  {st : List Value} {h : jv_H} : jv_ev call 140 8 [l0, l1, l2, l3] st h = jv_ev call 140 9 [l0, l1, l2, l3] (.int (nI 0) :: st) h := je_iconst D140_8 rfl (by decide)
theorem D140_9 : decode (jt_code 140) 9 = .ok (.istore_n 2, 1) := by decide +kernel
theorem E140_9 {call : jv_F} {l0 l1 l2 l3 : Option Value} {x : Int32} {st : List Value} {h : jv_H} (hk : ¬ jv_is2 (some l1) = true) : jv_ev call 140 9 [l0, l1, l2, l3] (.int x :: st) h = jv_ev call 140 10 [l0, l1, some (.int x), l3] st h := je_istore_n D140_9 rfl (Nat.le_of_ble_eq_true rfl) (by show jv_st1 _ 2 _ = _; simp only [jv_st1, jv_kill, List.getElem?_cons_succ, List.getElem?_cons_zero, hk, if_false]; rfl)
theorem D140_10 : decode (jt_code 140) 10 = .ok (.iload_n 2, 1) := by decide +kernel
theorem E140_10 {call : jv_F} {l0 l1 l3 : Option Value} {x : Int32} {st : List Value} {h : jv_H} : jv_ev call 140 10 [l0, l1, some (.int x), l3] st h = jv_ev call 140 11 [l0, l1, some (.int x), l3] (.int x :: st) h := je_iload_n D140_10 rfl rfl
theorem D140_11 : decode (jt_code 140) 11 = .ok (.aload_n 0, 1) := by decide +kernel
theorem E140_11 {call : jv_F} {l1 l2 l3 : Option Value} {a : Nat} {st : List Value} {h : jv_H} : jv_ev call 140 11 [some (.ref a), l1, l2, l3] st h = jv_ev call 140 12 [some (.ref a), l1, l2, l3] (.ref a :: st) h := je_aload_n (r := some a) D140_11 rfl rfl
theorem D140_12 : decode (jt_code 140) 12 = .ok (.getfield 36, 3) := by decide +kernel
theorem E140_12 {call : jv_F} {l0 l1 l2 l3 : Option Value} {a : Nat} {st : List Value} {h : jv_H} (hs : (jv_gf h a 6 4).isSome = true) : jv_ev call 140 12 [l0, l1, l2, l3] (.ref a :: st) h = jv_ev call 140 15 [l0, l1, l2, l3] ((jv_gf h a 6 4).getD .null :: st) h := by
  obtain ⟨v, hv⟩ := Option.isSome_iff_exists.mp hs
  rw [hv]
  exact je_get D140_12 rfl (by decide) hv
theorem D140_15 : decode (jt_code 140) 15 = .ok (.if_icmp .ge 54, 3) := by decide +kernel
theorem E140_15 {call : jv_F} {l0 l1 l2 l3 : Option Value} {x y : Int32} {st : List Value} {h : jv_H} : jv_ev call 140 15 [l0, l1, l2, l3] (.int y :: .int x :: st) h = if y ≤ x then jv_ev call 140 69 [l0, l1, l2, l3] st h else jv_ev call 140 18 [l0, l1, l2, l3] st h := je_icmp D140_15 (by decide) rfl rfl
theorem D140_18 : decode (jt_code 140) 18 = .ok (.aload_n 0, 1) := by decide +kernel
theorem E140_18 {call : jv_F} {l1 l2 l3 : Option Value} {a : Nat} {st : List Value} {h : jv_H} : jv_ev call 140 18 [some (.ref a), l1, l2, l3] st h = jv_ev call 140 19 [some (.ref a), l1, l2, l3] (.ref a :: st) h := je_aload_n (r := some a) D140_18 rfl rfl
theorem D140_19 : decode (jt_code 140) 19 = .ok (.iload_n 2, 1) := by decide +kernel
theorem E140_19 {call : jv_F} {l0 l1 l3 : Option Value} {x : Int32} {st : List Value} {h : jv_H} : jv_ev call 140 19 [l0, l1, some (.int x), l3] st h = jv_ev call 140 20 [l0, l1, some (.int x), l3] (.int x :: st) h := je_iload_n D140_19 rfl rfl
theorem D140_20 : decode (jt_code 140) 20 = .ok (.invokevirtual 109, 3) := by decide +kernel
theorem E140_20 {call : jv_F} {l0 l1 l2 l3 : Option Value} {b : Nat} {v0 : Value}  {st : List Value} {h : jv_H} (hw : jv_wide st = true) (hcl : jv_cl h b = some 6) (hc : (call 139 [.ref b, v0] h).isSome = true) : jv_ev call 140 20 [l0, l1, l2, l3] (v0 :: .ref b :: st) h = jv_ev call 140 23 [l0, l1, l2, l3] ((((call 139 [.ref b, v0] h).getD (none, h)).1).toList ++ st) ((call 139 [.ref b, v0] h).getD (none, h)).2 := by
  obtain ⟨⟨r, h'⟩, hv⟩ := Option.isSome_iff_exists.mp hc
  rw [hv]
  exact je_virt (y := 139) (as := [v0]) D140_20 rfl (by decide) (by decide) rfl hcl hw hv
theorem D140_23 : decode (jt_code 140) 23 = .ok (.astore_n 3, 1) := by decide +kernel
theorem E140_23 {call : jv_F} {l0 l1 l2 l3 : Option Value} {a : Nat} {st : List Value} {h : jv_H} (hk : ¬ jv_is2 (some l2) = true) : jv_ev call 140 23 [l0, l1, l2, l3] (.ref a :: st) h = jv_ev call 140 24 [l0, l1, l2, some (.ref a)] st h := je_astore_n (r := some a) D140_23 rfl (Nat.le_of_ble_eq_true rfl) (by show jv_st1 _ 3 _ = _; simp only [jv_st1, jv_kill, List.getElem?_cons_succ, List.getElem?_cons_zero, hk, if_false]; rfl)
theorem E140_23r {call : jv_F} {l0 l1 l2 l3 : Option Value} {r : Option Nat} {st : List Value} {h : jv_H} (hk : ¬ jv_is2 (some l2) = true) : jv_ev call 140 23 [l0, l1, l2, l3] (va_rf r :: st) h = jv_ev call 140 24 [l0, l1, l2, some (va_rf r)] st h := je_astore_n (r := r) D140_23 rfl (Nat.le_of_ble_eq_true rfl) (by show jv_st1 _ 3 _ = _; simp only [jv_st1, jv_kill, List.getElem?_cons_succ, List.getElem?_cons_zero, hk, if_false]; rfl)
theorem D140_24 : decode (jt_code 140) 24 = .ok (.aload_n 3, 1) := by decide +kernel
theorem E140_24 {call : jv_F} {l0 l1 l2 : Option Value} {a : Nat} {st : List Value} {h : jv_H} : jv_ev call 140 24 [l0, l1, l2, some (.ref a)] st h = jv_ev call 140 25 [l0, l1, l2, some (.ref a)] (.ref a :: st) h := je_aload_n (r := some a) D140_24 rfl rfl
theorem E140_24r {call : jv_F} {l0 l1 l2 : Option Value} {r : Option Nat} {st : List Value} {h : jv_H} : jv_ev call 140 24 [l0, l1, l2, some (va_rf r)] st h = jv_ev call 140 25 [l0, l1, l2, some (va_rf r)] (va_rf r :: st) h := je_aload_n (r := r) D140_24 rfl rfl
theorem D140_25 : decode (jt_code 140) 25 = .ok (.ifnull 38, 3) := by decide +kernel
theorem E140_25r {call : jv_F} {l0 l1 l2 l3 : Option Value} {x : Option Nat} {st : List Value} {h : jv_H} : jv_ev call 140 25 [l0, l1, l2, l3] (va_rf x :: st) h = if x = none then jv_ev call 140 63 [l0, l1, l2, l3] st h else jv_ev call 140 28 [l0, l1, l2, l3] st h := je_ifnull D140_25 (by decide) rfl
theorem E140_25 {call : jv_F} {l0 l1 l2 l3 : Option Value} {x : Nat} {st : List Value} {h : jv_H} : jv_ev call 140 25 [l0, l1, l2, l3] (.ref x :: st) h = jv_ev call 140 28 [l0, l1, l2, l3] st h := (je_ifnull (x := some x) (t := 63) D140_25 (by decide) rfl).trans (if_neg (by simp))
theorem D140_28 : decode (jt_code 140) 28 = .ok (.aload_n 3, 1) := by decide +kernel
theorem E140_28 {call : jv_F} {l0 l1 l2 : Option Value} {a : Nat} {st : List Value} {h : jv_H} : jv_ev call 140 28 [l0, l1, l2, some (.ref a)] st h = jv_ev call 140 29 [l0, l1, l2, some (.ref a)] (.ref a :: st) h := je_aload_n (r := some a) D140_28 rfl rfl
theorem E140_28r {call : jv_F} {l0 l1 l2 : Option Value} {r : Option Nat} {st : List Value} {h : jv_H} : jv_ev call 140 28 [l0, l1, l2, some (va_rf r)] st h = jv_ev call 140 29 [l0, l1, l2, some (va_rf r)] (va_rf r :: st) h := je_aload_n (r := r) D140_28 rfl rfl
theorem D140_29 : decode (jt_code 140) 29 = .ok (.aload_n 3, 1) := by decide +kernel
theorem E140_29 {call : jv_F} {l0 l1 l2 : Option Value} {a : Nat} {st : List Value} {h : jv_H} : jv_ev call 140 29 [l0, l1, l2, some (.ref a)] st h = jv_ev call 140 30 [l0, l1, l2, some (.ref a)] (.ref a :: st) h := je_aload_n (r := some a) D140_29 rfl rfl
theorem E140_29r {call : jv_F} {l0 l1 l2 : Option Value} {r : Option Nat} {st : List Value} {h : jv_H} : jv_ev call 140 29 [l0, l1, l2, some (va_rf r)] st h = jv_ev call 140 30 [l0, l1, l2, some (va_rf r)] (va_rf r :: st) h := je_aload_n (r := r) D140_29 rfl rfl
theorem D140_30 : decode (jt_code 140) 30 = .ok (.getfield 113, 3) := by decide +kernel
theorem E140_30 {call : jv_F} {l0 l1 l2 l3 : Option Value} {a : Nat} {st : List Value} {h : jv_H} (hs : (jv_gf h a 4 12).isSome = true) : jv_ev call 140 30 [l0, l1, l2, l3] (.ref a :: st) h = jv_ev call 140 33 [l0, l1, l2, l3] ((jv_gf h a 4 12).getD .null :: st) h := by
  obtain ⟨v, hv⟩ := Option.isSome_iff_exists.mp hs
  rw [hv]
  exact je_get D140_30 rfl (by decide) hv
theorem D140_33 : decode (jt_code 140) 33 = .ok (.ifCond .ne 11, 3) := by decide +kernel
theorem E140_33 {call : jv_F} {l0 l1 l2 l3 : Option Value} {x : Int32} {st : List Value} {h : jv_H} : jv_ev call 140 33 [l0, l1, l2, l3] (.int x :: st) h = if ¬ x = 0 then jv_ev call 140 44 [l0, l1, l2, l3] st h else jv_ev call 140 36 [l0, l1, l2, l3] st h := je_ifc D140_33 (by decide) rfl rfl
theorem D140_36 : decode (jt_code 140) 36 = .ok (.iload_n 1, 1) := by decide +kernel
theorem E140_36 {call : jv_F} {l0 l2 l3 : Option Value} {x : Int32} {st : List Value} {h : jv_H} : jv_ev call 140 36 [l0, some (.int x), l2, l3] st h = jv_ev call 140 37 [l0, some (.int x), l2, l3] (.int x :: st) h := je_iload_n D140_36 rfl rfl
theorem D140_37 : decode (jt_code 140) 37 = .ok (.ifCond .le 7, 3) := by decide +kernel
theorem E140_37 {call : jv_F} {l0 l1 l2 l3 : Option Value} {x : Int32} {st : List Value} {h : jv_H} : jv_ev call 140 37 [l0, l1, l2, l3] (.int x :: st) h = if x ≤ 0 then jv_ev call 140 44 [l0, l1, l2, l3] st h else jv_ev call 140 40 [l0, l1, l2, l3] st h := je_ifc D140_37 (by decide) rfl rfl
theorem D140_40 : decode (jt_code 140) 40 = .ok (.iconst 1, 1) := by decide +kernel
theorem E140_40 {call : jv_F} {l0 l1 l2 l3 : Option Value}  {st : List Value} {h : jv_H} : jv_ev call 140 40 [l0, l1, l2, l3] st h = jv_ev call 140 41 [l0, l1, l2, l3] (.int (nI 1) :: st) h := je_iconst D140_40 rfl (by decide)
theorem D140_41 : decode (jt_code 140) 41 = .ok (.goto 4, 3) := by decide +kernel
theorem E140_41 {call : jv_F} {l0 l1 l2 l3 : Option Value}  {st : List Value} {h : jv_H} : jv_ev call 140 41 [l0, l1, l2, l3] st h = jv_ev call 140 45 [l0, l1, l2, l3] st h := je_goto D140_41 (by decide)
theorem D140_44 : decode (jt_code 140) 44 = .ok (.iconst 0, 1) := by decide +kernel
theorem E140_44 {call : jv_F} {l0 l1 l2 l3 : Option Value}  {st : List Value} {h : jv_H} : jv_ev call 140 44 [l0, l1, l2, l3] st h = jv_ev call 140 45 [l0, l1, l2, l3] (.int (nI 0) :: st) h := je_iconst D140_44 rfl (by decide)
theorem D140_45 : decode (jt_code 140) 45 = .ok (.putfield 197, 3) := by decide +kernel
theorem E140_45 {call : jv_F} {l0 l1 l2 l3 : Option Value} {a : Nat} {v : Value} {st : List Value} {h : jv_H} (hs : (jv_pf h a 4 13 v).isSome = true) : jv_ev call 140 45 [l0, l1, l2, l3] (v :: .ref a :: st) h = jv_ev call 140 48 [l0, l1, l2, l3] st ((jv_pf h a 4 13 v).getD h) := by
  obtain ⟨h', hv⟩ := Option.isSome_iff_exists.mp hs
  rw [hv]
  exact je_put D140_45 rfl (by decide) (by decide) hv
theorem D140_48 : decode (jt_code 140) 48 = .ok (.iload_n 1, 1) := by decide +kernel
theorem E140_48 {call : jv_F} {l0 l2 l3 : Option Value} {x : Int32} {st : List Value} {h : jv_H} : jv_ev call 140 48 [l0, some (.int x), l2, l3] st h = jv_ev call 140 49 [l0, some (.int x), l2, l3] (.int x :: st) h := je_iload_n D140_48 rfl rfl
theorem D140_49 : decode (jt_code 140) 49 = .ok (.aload_n 3, 1) := by decide +kernel
theorem E140_49 {call : jv_F} {l0 l1 l2 : Option Value} {a : Nat} {st : List Value} {h : jv_H} : jv_ev call 140 49 [l0, l1, l2, some (.ref a)] st h = jv_ev call 140 50 [l0, l1, l2, some (.ref a)] (.ref a :: st) h := je_aload_n (r := some a) D140_49 rfl rfl
theorem E140_49r {call : jv_F} {l0 l1 l2 : Option Value} {r : Option Nat} {st : List Value} {h : jv_H} : jv_ev call 140 49 [l0, l1, l2, some (va_rf r)] st h = jv_ev call 140 50 [l0, l1, l2, some (va_rf r)] (va_rf r :: st) h := je_aload_n (r := r) D140_49 rfl rfl
theorem D140_50 : decode (jt_code 140) 50 = .ok (.getfield 197, 3) := by decide +kernel
theorem E140_50 {call : jv_F} {l0 l1 l2 l3 : Option Value} {a : Nat} {st : List Value} {h : jv_H} (hs : (jv_gf h a 4 13).isSome = true) : jv_ev call 140 50 [l0, l1, l2, l3] (.ref a :: st) h = jv_ev call 140 53 [l0, l1, l2, l3] ((jv_gf h a 4 13).getD .null :: st) h := by
  obtain ⟨v, hv⟩ := Option.isSome_iff_exists.mp hs
  rw [hv]
  exact je_get D140_50 rfl (by decide) hv
theorem D140_53 : decode (jt_code 140) 53 = .ok (.ifCond .eq 7, 3) := by decide +kernel
theorem E140_53 {call : jv_F} {l0 l1 l2 l3 : Option Value} {x : Int32} {st : List Value} {h : jv_H} : jv_ev call 140 53 [l0, l1, l2, l3] (.int x :: st) h = if x = 0 then jv_ev call 140 60 [l0, l1, l2, l3] st h else jv_ev call 140 56 [l0, l1, l2, l3] st h := je_ifc D140_53 (by decide) rfl rfl
theorem D140_56 : decode (jt_code 140) 56 = .ok (.iconst 1, 1) := by decide +kernel
theorem E140_56 {call : jv_F} {l0 l1 l2 l3 : Option Value}  {st : List Value} {h : jv_H} : jv_ev call 140 56 [l0, l1, l2, l3] st h = jv_ev call 140 57 [l0, l1, l2, l3] (.int (nI 1) :: st) h := je_iconst D140_56 rfl (by decide)
theorem D140_57 : decode (jt_code 140) 57 = .ok (.goto 4, 3) := by decide +kernel
theorem E140_57 {call : jv_F} {l0 l1 l2 l3 : Option Value}  {st : List Value} {h : jv_H} : jv_ev call 140 57 [l0, l1, l2, l3] st h = jv_ev call 140 61 [l0, l1, l2, l3] st h := je_goto D140_57 (by decide)
theorem D140_60 : decode (jt_code 140) 60 = .ok (.iconst 0, 1) := by decide +kernel
theorem E140_60 {call : jv_F} {l0 l1 l2 l3 : Option Value}  {st : List Value} {h : jv_H} : jv_ev call 140 60 [l0, l1, l2, l3] st h = jv_ev call 140 61 [l0, l1, l2, l3] (.int (nI 0) :: st) h := je_iconst D140_60 rfl (by decide)
theorem D140_61 : decode (jt_code 140) 61 = .ok (.isub, 1) := by decide +kernel
theorem E140_61 {call : jv_F} {l0 l1 l2 l3 : Option Value} {x y : Int32} {st : List Value} {h : jv_H} : jv_ev call 140 61 [l0, l1, l2, l3] (.int y :: .int x :: st) h = jv_ev call 140 62 [l0, l1, l2, l3] (.int (x - y) :: st) h := je_b2 (f := fun x y => x - y) D140_61 rfl (fun _ => rfl)
theorem D140_62 : decode (jt_code 140) 62 = .ok (.istore_n 1, 1) := by decide +kernel
theorem E140_62 {call : jv_F} {l0 l1 l2 l3 : Option Value} {x : Int32} {st : List Value} {h : jv_H} (hk : ¬ jv_is2 (some l0) = true) : jv_ev call 140 62 [l0, l1, l2, l3] (.int x :: st) h = jv_ev call 140 63 [l0, some (.int x), l2, l3] st h := je_istore_n D140_62 rfl (Nat.le_of_ble_eq_true rfl) (by show jv_st1 _ 1 _ = _; simp only [jv_st1, jv_kill, List.getElem?_cons_succ, List.getElem?_cons_zero, hk, if_false]; rfl)
theorem D140_63 : decode (jt_code 140) 63 = .ok (.iinc 2 1, 3) := by decide +kernel
theorem E140_63 {call : jv_F} {l0 l1 l3 : Option Value} {x : Int32} {st : List Value} {h : jv_H} (hk : ¬ jv_is2 (some l1) = true) : jv_ev call 140 63 [l0, l1, some (.int x), l3] st h = jv_ev call 140 66 [l0, l1, some (.int (x + (nI 1))), l3] st h := je_iinc D140_63 rfl rfl (v := x + (nI 1)) (by rfl) (by show jv_st1 _ 2 _ = _; simp only [jv_st1, jv_kill, List.getElem?_cons_succ, List.getElem?_cons_zero, hk, if_false]; rfl)
theorem D140_66 : decode (jt_code 140) 66 = .ok (.goto (-56), 3) := by decide +kernel
theorem E140_66 {call : jv_F} {l0 l1 l2 l3 : Option Value}  {st : List Value} {h : jv_H} : jv_ev call 140 66 [l0, l1, l2, l3] st h = jv_ev call 140 10 [l0, l1, l2, l3] st h := je_goto D140_66 (by decide)
theorem D140_69 : decode (jt_code 140) 69 = .ok (.return_, 1) := by decide +kernel
theorem E140_69 {call : jv_F} {l0 l1 l2 l3 : Option Value}  {h : jv_H} : jv_ev call 140 69 [l0, l1, l2, l3] [] h = some (none, h) := je_ret D140_69 rfl
/-! method 141: DrumMachine.tick -/
theorem N141 {d : Nat} {b : Nat} {h : jv_H} : jv_run (d + 1) 141 [.ref b] h = jv_ev (jv_run d) 141 0 [some (.ref b), none, none] [] h := jv_run_eq (Nat.le_of_ble_eq_true rfl) rfl
theorem D141_0 : decode (jt_code 141) 0 = .ok (.aload_n 0, 1) := by decide +kernel
theorem E141_0 {call : jv_F} {l1 l2 : Option Value} {a : Nat} {st : List Value} {h : jv_H} : jv_ev call 141 0 [some (.ref a), l1, l2] st h = jv_ev call 141 1 [some (.ref a), l1, l2] (.ref a :: st) h := je_aload_n (r := some a) D141_0 rfl rfl
theorem D141_1 : decode (jt_code 141) 1 = .ok (.invokevirtual 200, 3) := by decide +kernel
theorem E141_1 {call : jv_F} {l0 l1 l2 : Option Value} {b : Nat}  {st : List Value} {h : jv_H} (hw : jv_wide st = true) (hcl : jv_cl h b = some 6) (hc : (call 142 [.ref b] h).isSome = true) : jv_ev call 141 1 [l0, l1, l2] (.ref b :: st) h = jv_ev call 141 4 [l0, l1, l2] ((((call 142 [.ref b] h).getD (none, h)).1).toList ++ st) ((call 142 [.ref b] h).getD (none, h)).2 := by
  obtain ⟨⟨r, h'⟩, hv⟩ := Option.isSome_iff_exists.mp hc
  rw [hv]
  exact je_virt (y := 142) (as := []) D141_1 rfl (by decide) (by decide) rfl hcl hw hv
theorem D141_4 : decode (jt_code 141) 4 = .ok (.aload_n 0, 1) := by decide +kernel
theorem E141_4 {call : jv_F} {l1 l2 : Option Value} {a : Nat} {st : List Value} {h : jv_H} : jv_ev call 141 4 [some (.ref a), l1, l2] st h = jv_ev call 141 5 [some (.ref a), l1, l2] (.ref a :: st) h := je_aload_n (r := some a) D141_4 rfl rfl
theorem D141_5 : decode (jt_code 141) 5 = .ok (.invokevirtual 203, 3) := by decide +kernel
theorem E141_5 {call : jv_F} {l0 l1 l2 : Option Value} {b : Nat}  {st : List Value} {h : jv_H} (hw : jv_wide st = true) (hcl : jv_cl h b = some 6) (hc : (call 143 [.ref b] h).isSome = true) : jv_ev call 141 5 [l0, l1, l2] (.ref b :: st) h = jv_ev call 141 8 [l0, l1, l2] ((((call 143 [.ref b] h).getD (none, h)).1).toList ++ st) ((call 143 [.ref b] h).getD (none, h)).2 := by
  obtain ⟨⟨r, h'⟩, hv⟩ := Option.isSome_iff_exists.mp hc
  rw [hv]
  exact je_virt (y := 143) (as := []) D141_5 rfl (by decide) (by decide) rfl hcl hw hv
theorem D141_8 : decode (jt_code 141) 8 = .ok (.aload_n 0, 1) := by decide +kernel
theorem E141_8 {call : jv_F} {l1 l2 : Option Value} {a : Nat} {st : List Value} {h : jv_H} : jv_ev call 141 8 [some (.ref a), l1, l2] st h = jv_ev call 141 9 [some (.ref a), l1, l2] (.ref a :: st) h := je_aload_n (r := some a) D141_8 rfl rfl
theorem D141_9 : decode (jt_code 141) 9 = .ok (.getfield 26, 3) := by decide +kernel
theorem E141_9 {call : jv_F} {l0 l1 l2 : Option Value} {a : Nat} {st : List Value} {h : jv_H} (hs : (jv_gf h a 6 2).isSome = true) : jv_ev call 141 9 [l0, l1, l2] (.ref a :: st) h = jv_ev call 141 12 [l0, l1, l2] ((jv_gf h a 6 2).getD .null :: st) h := by
  obtain ⟨v, hv⟩ := Option.isSome_iff_exists.mp hs
  rw [hv]
  exact je_get D141_9 rfl (by decide) hv
theorem D141_12 : decode (jt_code 141) 12 = .ok (.aload_n 0, 1) := by decide +kernel
theorem E141_12 {call : jv_F} {l1 l2 : Option Value} {a : Nat} {st : List Value} {h : jv_H} : jv_ev call 141 12 [some (.ref a), l1, l2] st h = jv_ev call 141 13 [some (.ref a), l1, l2] (.ref a :: st) h := je_aload_n (r := some a) D141_12 rfl rfl
theorem D141_13 : decode (jt_code 141) 13 = .ok (.getfield 49, 3) := by decide +kernel
theorem E141_13 {call : jv_F} {l0 l1 l2 : Option Value} {a : Nat} {st : List Value} {h : jv_H} (hs : (jv_gf h a 6 8).isSome = true) : jv_ev call 141 13 [l0, l1, l2] (.ref a :: st) h = jv_ev call 141 16 [l0, l1, l2] ((jv_gf h a 6 8).getD .null :: st) h := by
  obtain ⟨v, hv⟩ := Option.isSome_iff_exists.mp hs
  rw [hv]
  exact je_get D141_13 rfl (by decide) hv
theorem D141_16 : decode (jt_code 141) 16 = .ok (.invokevirtual 206, 3) := by decide +kernel
theorem E141_16 {call : jv_F} {l0 l1 l2 : Option Value} {b : Nat} {v0 : Value}  {st : List Value} {h : jv_H} (hw : jv_wide st = true) (hcl : jv_cl h b = some 3) (hc : (call 84 [.ref b, v0] h).isSome = true) : jv_ev call 141 16 [l0, l1, l2] (v0 :: .ref b :: st) h = jv_ev call 141 19 [l0, l1, l2] ((((call 84 [.ref b, v0] h).getD (none, h)).1).toList ++ st) ((call 84 [.ref b, v0] h).getD (none, h)).2 := by
  obtain ⟨⟨r, h'⟩, hv⟩ := Option.isSome_iff_exists.mp hc
  rw [hv]
  exact je_virt (y := 84) (as := [v0]) D141_16 rfl (by decide) (by decide) rfl hcl hw hv
theorem D141_19 : decode (jt_code 141) 19 = .ok (.aload_n 0, 1) := by decide +kernel
theorem E141_19 {call : jv_F} {l1 l2 : Option Value} {a : Nat} {st : List Value} {h : jv_H} : jv_ev call 141 19 [some (.ref a), l1, l2] st h = jv_ev call 141 20 [some (.ref a), l1, l2] (.ref a :: st) h := je_aload_n (r := some a) D141_19 rfl rfl
theorem D141_20 : decode (jt_code 141) 20 = .ok (.invokevirtual 209, 3) := by decide +kernel
theorem E141_20 {call : jv_F} {l0 l1 l2 : Option Value} {b : Nat}  {st : List Value} {h : jv_H} (hw : jv_wide st = true) (hcl : jv_cl h b = some 6) (hc : (call 144 [.ref b] h).isSome = true) : jv_ev call 141 20 [l0, l1, l2] (.ref b :: st) h = jv_ev call 141 23 [l0, l1, l2] ((((call 144 [.ref b] h).getD (none, h)).1).toList ++ st) ((call 144 [.ref b] h).getD (none, h)).2 := by
  obtain ⟨⟨r, h'⟩, hv⟩ := Option.isSome_iff_exists.mp hc
  rw [hv]
  exact je_virt (y := 144) (as := []) D141_20 rfl (by decide) (by decide) rfl hcl hw hv
theorem D141_23 : decode (jt_code 141) 23 = .ok (.istore_n 1, 1) := by decide +kernel
theorem E141_23 {call : jv_F} {l0 l1 l2 : Option Value} {x : Int32} {st : List Value} {h : jv_H} (hk : ¬ jv_is2 (some l0) = true) : jv_ev call 141 23 [l0, l1, l2] (.int x :: st) h = jv_ev call 141 24 [l0, some (.int x), l2] st h := je_istore_n D141_23 rfl (Nat.le_of_ble_eq_true rfl) (by show jv_st1 _ 1 _ = _; simp only [jv_st1, jv_kill, List.getElem?_cons_succ, List.getElem?_cons_zero, hk, if_false]; rfl)
theorem D141_24 : decode (jt_code 141) 24 = .ok (.aload_n 0, 1) := by decide +kernel
theorem E141_24 {call : jv_F} {l1 l2 : Option Value} {a : Nat} {st : List Value} {h : jv_H} : jv_ev call 141 24 [some (.ref a), l1, l2] st h = jv_ev call 141 25 [some (.ref a), l1, l2] (.ref a :: st) h := je_aload_n (r := some a) D141_24 rfl rfl
theorem D141_25 : decode (jt_code 141) 25 = .ok (.iload_n 1, 1) := by decide +kernel
theorem E141_25 {call : jv_F} {l0 l2 : Option Value} {x : Int32} {st : List Value} {h : jv_H} : jv_ev call 141 25 [l0, some (.int x), l2] st h = jv_ev call 141 26 [l0, some (.int x), l2] (.int x :: st) h := je_iload_n D141_25 rfl rfl
theorem D141_26 : decode (jt_code 141) 26 = .ok (.invokevirtual 109, 3) := by decide +kernel
theorem E141_26 {call : jv_F} {l0 l1 l2 : Option Value} {b : Nat} {v0 : Value}  {st : List Value} {h : jv_H} (hw : jv_wide st = true) (hcl : jv_cl h b = some 6) (hc : (call 139 [.ref b, v0] h).isSome = true) : jv_ev call 141 26 [l0, l1, l2] (v0 :: .ref b :: st) h = jv_ev call 141 29 [l0, l1, l2] ((((call 139 [.ref b, v0] h).getD (none, h)).1).toList ++ st) ((call 139 [.ref b, v0] h).getD (none, h)).2 := by
  obtain ⟨⟨r, h'⟩, hv⟩ := Option.isSome_iff_exists.mp hc
  rw [hv]
  exact je_virt (y := 139) (as := [v0]) D141_26 rfl (by decide) (by decide) rfl hcl hw hv
theorem D141_29 : decode (jt_code 141) 29 = .ok (.astore_n 2, 1) := by decide +kernel
theorem E141_29 {call : jv_F} {l0 l1 l2 : Option Value} {a : Nat} {st : List Value} {h : jv_H} (hk : ¬ jv_is2 (some l1) = true) : jv_ev call 141 29 [l0, l1, l2] (.ref a :: st) h = jv_ev call 141 30 [l0, l1, some (.ref a)] st h := je_astore_n (r := some a) D141_29 rfl (Nat.le_of_ble_eq_true rfl) (by show jv_st1 _ 2 _ = _; simp only [jv_st1, jv_kill, List.getElem?_cons_succ, List.getElem?_cons_zero, hk, if_false]; rfl)
theorem E141_29r {call : jv_F} {l0 l1 l2 : Option Value} {r : Option Nat} {st : List Value} {h : jv_H} (hk : ¬ jv_is2 (some l1) = true) : jv_ev call 141 29 [l0, l1, l2] (va_rf r :: st) h = jv_ev call 141 30 [l0, l1, some (va_rf r)] st h := je_astore_n (r := r) D141_29 rfl (Nat.le_of_ble_eq_true rfl) (by show jv_st1 _ 2 _ = _; simp only [jv_st1, jv_kill, List.getElem?_cons_succ, List.getElem?_cons_zero, hk, if_false]; rfl)
theorem D141_30 : decode (jt_code 141) 30 = .ok (.aload_n 2, 1) := by decide +kernel
theorem E141_30 {call : jv_F} {l0 l1 : Option Value} {a : Nat} {st : List Value} {h : jv_H} : jv_ev call 141 30 [l0, l1, some (.ref a)] st h = jv_ev call 141 31 [l0, l1, some (.ref a)] (.ref a :: st) h := je_aload_n (r := some a) D141_30 rfl rfl
theorem E141_30r {call : jv_F} {l0 l1 : Option Value} {r : Option Nat} {st : List Value} {h : jv_H} : jv_ev call 141 30 [l0, l1, some (va_rf r)] st h = jv_ev call 141 31 [l0, l1, some (va_rf r)] (va_rf r :: st) h := je_aload_n (r := r) D141_30 rfl rfl
theorem D141_31 : decode (jt_code 141) 31 = .ok (.ifnonnull 16, 3) := by decide +kernel
theorem E141_31r {call : jv_F} {l0 l1 l2 : Option Value} {x : Option Nat} {st : List Value} {h : jv_H} : jv_ev call 141 31 [l0, l1, l2] (va_rf x :: st) h = if x = none then jv_ev call 141 34 [l0, l1, l2] st h else jv_ev call 141 47 [l0, l1, l2] st h := je_ifnonnull D141_31 (by decide) rfl
theorem E141_31 {call : jv_F} {l0 l1 l2 : Option Value} {x : Nat} {st : List Value} {h : jv_H} : jv_ev call 141 31 [l0, l1, l2] (.ref x :: st) h = jv_ev call 141 47 [l0, l1, l2] st h := (je_ifnonnull (x := some x) (t := 47) D141_31 (by decide) rfl).trans (if_neg (by simp))
theorem D141_34 : decode (jt_code 141) 34 = .ok (.aload_n 0, 1) := by decide +kernel
theorem E141_34 {call : jv_F} {l1 l2 : Option Value} {a : Nat} {st : List Value} {h : jv_H} : jv_ev call 141 34 [some (.ref a), l1, l2] st h = jv_ev call 141 35 [some (.ref a), l1, l2] (.ref a :: st) h := je_aload_n (r := some a) D141_34 rfl rfl
theorem D141_35 : decode (jt_code 141) 35 = .ok (.dup, 1) := by decide +kernel
theorem E141_35 {call : jv_F} {l0 l1 l2 : Option Value} {a : Nat} {st : List Value} {h : jv_H} : jv_ev call 141 35 [l0, l1, l2] (.ref a :: st) h = jv_ev call 141 36 [l0, l1, l2] (.ref a :: .ref a :: st) h := je_dup D141_35 rfl rfl
theorem E141_35i {call : jv_F} {l0 l1 l2 : Option Value} {x : Int32} {st : List Value} {h : jv_H} : jv_ev call 141 35 [l0, l1, l2] (.int x :: st) h = jv_ev call 141 36 [l0, l1, l2] (.int x :: .int x :: st) h := je_dup D141_35 rfl rfl
theorem D141_36 : decode (jt_code 141) 36 = .ok (.getfield 55, 3) := by decide +kernel
theorem E141_36 {call : jv_F} {l0 l1 l2 : Option Value} {a : Nat} {st : List Value} {h : jv_H} (hs : (jv_gf h a 6 10).isSome = true) : jv_ev call 141 36 [l0, l1, l2] (.ref a :: st) h = jv_ev call 141 39 [l0, l1, l2] ((jv_gf h a 6 10).getD .null :: st) h := by
  obtain ⟨v, hv⟩ := Option.isSome_iff_exists.mp hs
  rw [hv]
  exact je_get D141_36 rfl (by decide) hv
theorem D141_39 : decode (jt_code 141) 39 = .ok (.iconst 1, 1) := by decide +kernel
theorem E141_39 {call : jv_F} {l0 l1 l2 : Option Value}  {st : List Value} {h : jv_H} : jv_ev call 141 39 [l0, l1, l2] st h = jv_ev call 141 40 [l0, l1, l2] (.int (nI 1) :: st) h := je_iconst D141_39 rfl (by decide)
theorem D141_40 : decode (jt_code 141) 40 = .ok (.iadd, 1) := by decide +kernel
theorem E141_40 {call : jv_F} {l0 l1 l2 : Option Value} {x y : Int32} {st : List Value} {h : jv_H} : jv_ev call 141 40 [l0, l1, l2] (.int y :: .int x :: st) h = jv_ev call 141 41 [l0, l1, l2] (.int (x + y) :: st) h := je_b2 (f := fun x y => x + y) D141_40 rfl (fun _ => rfl)
theorem D141_41 : decode (jt_code 141) 41 = .ok (.putfield 55, 3) := by decide +kernel
theorem E141_41 {call : jv_F} {l0 l1 l2 : Option Value} {a : Nat} {v : Value} {st : List Value} {h : jv_H} (hs : (jv_pf h a 6 10 v).isSome = true) : jv_ev call 141 41 [l0, l1, l2] (v :: .ref a :: st) h = jv_ev call 141 44 [l0, l1, l2] st ((jv_pf h a 6 10 v).getD h) := by
  obtain ⟨h', hv⟩ := Option.isSome_iff_exists.mp hs
  rw [hv]
  exact je_put D141_41 rfl (by decide) (by decide) hv
theorem D141_44 : decode (jt_code 141) 44 = .ok (.goto 22, 3) := by decide +kernel
theorem E141_44 {call : jv_F} {l0 l1 l2 : Option Value}  {st : List Value} {h : jv_H} : jv_ev call 141 44 [l0, l1, l2] st h = jv_ev call 141 66 [l0, l1, l2] st h := je_goto D141_44 (by decide)
theorem D141_47 : decode (jt_code 141) 47 = .ok (.aload_n 0, 1) := by decide +kernel
theorem E141_47 {call : jv_F} {l1 l2 : Option Value} {a : Nat} {st : List Value} {h : jv_H} : jv_ev call 141 47 [some (.ref a), l1, l2] st h = jv_ev call 141 48 [some (.ref a), l1, l2] (.ref a :: st) h := je_aload_n (r := some a) D141_47 rfl rfl
theorem D141_48 : decode (jt_code 141) 48 = .ok (.iload_n 1, 1) := by decide +kernel
theorem E141_48 {call : jv_F} {l0 l2 : Option Value} {x : Int32} {st : List Value} {h : jv_H} : jv_ev call 141 48 [l0, some (.int x), l2] st h = jv_ev call 141 49 [l0, some (.int x), l2] (.int x :: st) h := je_iload_n D141_48 rfl rfl
theorem D141_49 : decode (jt_code 141) 49 = .ok (.putfield 46, 3) := by decide +kernel
theorem E141_49 {call : jv_F} {l0 l1 l2 : Option Value} {a : Nat} {v : Value} {st : List Value} {h : jv_H} (hs : (jv_pf h a 6 7 v).isSome = true) : jv_ev call 141 49 [l0, l1, l2] (v :: .ref a :: st) h = jv_ev call 141 52 [l0, l1, l2] st ((jv_pf h a 6 7 v).getD h) := by
  obtain ⟨h', hv⟩ := Option.isSome_iff_exists.mp hs
  rw [hv]
  exact je_put D141_49 rfl (by decide) (by decide) hv
theorem D141_52 : decode (jt_code 141) 52 = .ok (.aload_n 2, 1) := by decide +kernel
theorem E141_52 {call : jv_F} {l0 l1 : Option Value} {a : Nat} {st : List Value} {h : jv_H} : jv_ev call 141 52 [l0, l1, some (.ref a)] st h = jv_ev call 141 53 [l0, l1, some (.ref a)] (.ref a :: st) h := je_aload_n (r := some a) D141_52 rfl rfl
theorem E141_52r {call : jv_F} {l0 l1 : Option Value} {r : Option Nat} {st : List Value} {h : jv_H} : jv_ev call 141 52 [l0, l1, some (va_rf r)] st h = jv_ev call 141 53 [l0, l1, some (va_rf r)] (va_rf r :: st) h := je_aload_n (r := r) D141_52 rfl rfl
theorem D141_53 : decode (jt_code 141) 53 = .ok (.invokevirtual 212, 3) := by decide +kernel
theorem E141_53 {call : jv_F} {l0 l1 l2 : Option Value} {b : Nat}  {st : List Value} {h : jv_H} (hw : jv_wide st = true) (hcl : jv_cl h b = some 4) (hc : (call 93 [.ref b] h).isSome = true) : jv_ev call 141 53 [l0, l1, l2] (.ref b :: st) h = jv_ev call 141 56 [l0, l1, l2] ((((call 93 [.ref b] h).getD (none, h)).1).toList ++ st) ((call 93 [.ref b] h).getD (none, h)).2 := by
  obtain ⟨⟨r, h'⟩, hv⟩ := Option.isSome_iff_exists.mp hc
  rw [hv]
  exact je_virt (y := 93) (as := []) D141_53 rfl (by decide) (by decide) rfl hcl hw hv
theorem D141_56 : decode (jt_code 141) 56 = .ok (.aload_n 0, 1) := by decide +kernel
theorem E141_56 {call : jv_F} {l1 l2 : Option Value} {a : Nat} {st : List Value} {h : jv_H} : jv_ev call 141 56 [some (.ref a), l1, l2] st h = jv_ev call 141 57 [some (.ref a), l1, l2] (.ref a :: st) h := je_aload_n (r := some a) D141_56 rfl rfl
theorem D141_57 : decode (jt_code 141) 57 = .ok (.aload_n 2, 1) := by decide +kernel
theorem E141_57 {call : jv_F} {l0 l1 : Option Value} {a : Nat} {st : List Value} {h : jv_H} : jv_ev call 141 57 [l0, l1, some (.ref a)] st h = jv_ev call 141 58 [l0, l1, some (.ref a)] (.ref a :: st) h := je_aload_n (r := some a) D141_57 rfl rfl
theorem E141_57r {call : jv_F} {l0 l1 : Option Value} {r : Option Nat} {st : List Value} {h : jv_H} : jv_ev call 141 57 [l0, l1, some (va_rf r)] st h = jv_ev call 141 58 [l0, l1, some (va_rf r)] (va_rf r :: st) h := je_aload_n (r := r) D141_57 rfl rfl
theorem D141_58 : decode (jt_code 141) 58 = .ok (.aload_n 0, 1) := by decide +kernel
theorem E141_58 {call : jv_F} {l1 l2 : Option Value} {a : Nat} {st : List Value} {h : jv_H} : jv_ev call 141 58 [some (.ref a), l1, l2] st h = jv_ev call 141 59 [some (.ref a), l1, l2] (.ref a :: st) h := je_aload_n (r := some a) D141_58 rfl rfl
theorem D141_59 : decode (jt_code 141) 59 = .ok (.aload_n 2, 1) := by decide +kernel
theorem E141_59 {call : jv_F} {l0 l1 : Option Value} {a : Nat} {st : List Value} {h : jv_H} : jv_ev call 141 59 [l0, l1, some (.ref a)] st h = jv_ev call 141 60 [l0, l1, some (.ref a)] (.ref a :: st) h := je_aload_n (r := some a) D141_59 rfl rfl
theorem E141_59r {call : jv_F} {l0 l1 : Option Value} {r : Option Nat} {st : List Value} {h : jv_H} : jv_ev call 141 59 [l0, l1, some (va_rf r)] st h = jv_ev call 141 60 [l0, l1, some (va_rf r)] (va_rf r :: st) h := je_aload_n (r := r) D141_59 rfl rfl
theorem D141_60 : decode (jt_code 141) 60 = .ok (.invokevirtual 215, 3) := by decide +kernel
theorem E141_60 {call : jv_F} {l0 l1 l2 : Option Value} {b : Nat} {v0 : Value}  {st : List Value} {h : jv_H} (hw : jv_wide st = true) (hcl : jv_cl h b = some 6) (hc : (call 147 [.ref b, v0] h).isSome = true) : jv_ev call 141 60 [l0, l1, l2] (v0 :: .ref b :: st) h = jv_ev call 141 63 [l0, l1, l2] ((((call 147 [.ref b, v0] h).getD (none, h)).1).toList ++ st) ((call 147 [.ref b, v0] h).getD (none, h)).2 := by
  obtain ⟨⟨r, h'⟩, hv⟩ := Option.isSome_iff_exists.mp hc
  rw [hv]
  exact je_virt (y := 147) (as := [v0]) D141_60 rfl (by decide) (by decide) rfl hcl hw hv
theorem D141_63 : decode (jt_code 141) 63 = .ok (.invokevirtual 219, 3) := by decide +kernel
theorem E141_63 {call : jv_F} {l0 l1 l2 : Option Value} {b : Nat} {v0 v1 : Value}  {st : List Value} {h : jv_H} (hw : jv_wide st = true) (hcl : jv_cl h b = some 6) (hc : (call 145 [.ref b, v0, v1] h).isSome = true) : jv_ev call 141 63 [l0, l1, l2] (v1 :: v0 :: .ref b :: st) h = jv_ev call 141 66 [l0, l1, l2] ((((call 145 [.ref b, v0, v1] h).getD (none, h)).1).toList ++ st) ((call 145 [.ref b, v0, v1] h).getD (none, h)).2 := by
  obtain ⟨⟨r, h'⟩, hv⟩ := Option.isSome_iff_exists.mp hc
  rw [hv]
  exact je_virt (y := 145) (as := [v0, v1]) D141_63 rfl (by decide) (by decide) rfl hcl hw hv
theorem D141_66 : decode (jt_code 141) 66 = .ok (.aload_n 0, 1) := by decide +kernel
theorem E141_66 {call : jv_F} {l1 l2 : Option Value} {a : Nat} {st : List Value} {h : jv_H} : jv_ev call 141 66 [some (.ref a), l1, l2] st h = jv_ev call 141 67 [some (.ref a), l1, l2] (.ref a :: st) h := je_aload_n (r := some a) D141_66 rfl rfl
theorem D141_67 : decode (jt_code 141) 67 = .ok (.dup, 1) := by decide +kernel
theorem E141_67 {call : jv_F} {l0 l1 l2 : Option Value} {a : Nat} {st : List Value} {h : jv_H} : jv_ev call 141 67 [l0, l1, l2] (.ref a :: st) h = jv_ev call 141 68 [l0, l1, l2] (.ref a :: .ref a :: st) h := je_dup D141_67 rfl rfl
theorem E141_67i {call : jv_F} {l0 l1 l2 : Option Value} {x : Int32} {st : List Value} {h : jv_H} : jv_ev call 141 67 [l0, l1, l2] (.int x :: st) h = jv_ev call 141 68 [l0, l1, l2] (.int x :: .int x :: st) h := je_dup D141_67 rfl rfl
theorem D141_68 : decode (jt_code 141) 68 = .ok (.getfield 49, 3) := by decide +kernel
theorem E141_68 {call : jv_F} {l0 l1 l2 : Option Value} {a : Nat} {st : List Value} {h : jv_H} (hs : (jv_gf h a 6 8).isSome = true) : jv_ev call 141 68 [l0, l1, l2] (.ref a :: st) h = jv_ev call 141 71 [l0, l1, l2] ((jv_gf h a 6 8).getD .null :: st) h := by
  obtain ⟨v, hv⟩ := Option.isSome_iff_exists.mp hs
  rw [hv]
  exact je_get D141_68 rfl (by decide) hv
theorem D141_71 : decode (jt_code 141) 71 = .ok (.iconst 1, 1) := by decide +kernel
theorem E141_71 {call : jv_F} {l0 l1 l2 : Option Value}  {st : List Value} {h : jv_H} : jv_ev call 141 71 [l0, l1, l2] st h = jv_ev call 141 72 [l0, l1, l2] (.int (nI 1) :: st) h := je_iconst D141_71 rfl (by decide)
theorem D141_72 : decode (jt_code 141) 72 = .ok (.iadd, 1) := by decide +kernel
theorem E141_72 {call : jv_F} {l0 l1 l2 : Option Value} {x y : Int32} {st : List Value} {h : jv_H} : jv_ev call 141 72 [l0, l1, l2] (.int y :: .int x :: st) h = jv_ev call 141 73 [l0, l1, l2] (.int (x + y) :: st) h := je_b2 (f := fun x y => x + y) D141_72 rfl (fun _ => rfl)
theorem D141_73 : decode (jt_code 141) 73 = .ok (.putfield 49, 3) := by decide +kernel
theorem E141_73 {call : jv_F} {l0 l1 l2 : Option Value} {a : Nat} {v : Value} {st : List Value} {h : jv_H} (hs : (jv_pf h a 6 8 v).isSome = true) : jv_ev call 141 73 [l0, l1, l2] (v :: .ref a :: st) h = jv_ev call 141 76 [l0, l1, l2] st ((jv_pf h a 6 8 v).getD h) := by
  obtain ⟨h', hv⟩ := Option.isSome_iff_exists.mp hs
  rw [hv]
  exact je_put D141_73 rfl (by decide) (by decide) hv
theorem D141_76 : decode (jt_code 141) 76 = .ok (.return_, 1) := by decide +kernel
theorem E141_76 {call : jv_F} {l0 l1 l2 : Option Value}  {h : jv_H} : jv_ev call 141 76 [l0, l1, l2] [] h = some (none, h) := je_ret D141_76 rfl
/-! method 142: DrumMachine.finishTransfer -/
theorem N142 {d : Nat} {b : Nat} {h : jv_H} : jv_run (d + 1) 142 [.ref b] h = jv_ev (jv_run d) 142 0 [some (.ref b), none] [] h := jv_run_eq (Nat.le_of_ble_eq_true rfl) rfl
theorem D142_0 : decode (jt_code 142) 0 = .ok (.aload_n 0, 1) := by decide +kernel
theorem E142_0 {call : jv_F} {l1 : Option Value} {a : Nat} {st : List Value} {h : jv_H} : jv_ev call 142 0 [some (.ref a), l1] st h = jv_ev call 142 1 [some (.ref a), l1] (.ref a :: st) h := je_aload_n (r := some a) D142_0 rfl rfl
theorem D142_1 : decode (jt_code 142) 1 = .ok (.getfield 26, 3) := by decide +kernel
theorem E142_1 {call : jv_F} {l0 l1 : Option Value} {a : Nat} {st : List Value} {h : jv_H} (hs : (jv_gf h a 6 2).isSome = true) : jv_ev call 142 1 [l0, l1] (.ref a :: st) h = jv_ev call 142 4 [l0, l1] ((jv_gf h a 6 2).getD .null :: st) h := by
  obtain ⟨v, hv⟩ := Option.isSome_iff_exists.mp hs
  rw [hv]
  exact je_get D142_1 rfl (by decide) hv
theorem D142_4 : decode (jt_code 142) 4 = .ok (.aload_n 0, 1) := by decide +kernel
theorem E142_4 {call : jv_F} {l1 : Option Value} {a : Nat} {st : List Value} {h : jv_H} : jv_ev call 142 4 [some (.ref a), l1] st h = jv_ev call 142 5 [some (.ref a), l1] (.ref a :: st) h := je_aload_n (r := some a) D142_4 rfl rfl
theorem D142_5 : decode (jt_code 142) 5 = .ok (.getfield 49, 3) := by decide +kernel
theorem E142_5 {call : jv_F} {l0 l1 : Option Value} {a : Nat} {st : List Value} {h : jv_H} (hs : (jv_gf h a 6 8).isSome = true) : jv_ev call 142 5 [l0, l1] (.ref a :: st) h = jv_ev call 142 8 [l0, l1] ((jv_gf h a 6 8).getD .null :: st) h := by
  obtain ⟨v, hv⟩ := Option.isSome_iff_exists.mp hs
  rw [hv]
  exact je_get D142_5 rfl (by decide) hv
theorem D142_8 : decode (jt_code 142) 8 = .ok (.invokevirtual 223, 3) := by decide +kernel
theorem E142_8 {call : jv_F} {l0 l1 : Option Value} {b : Nat} {v0 : Value}  {st : List Value} {h : jv_H} (hw : jv_wide st = true) (hcl : jv_cl h b = some 3) (hc : (call 85 [.ref b, v0] h).isSome = true) : jv_ev call 142 8 [l0, l1] (v0 :: .ref b :: st) h = jv_ev call 142 11 [l0, l1] ((((call 85 [.ref b, v0] h).getD (none, h)).1).toList ++ st) ((call 85 [.ref b, v0] h).getD (none, h)).2 := by
  obtain ⟨⟨r, h'⟩, hv⟩ := Option.isSome_iff_exists.mp hc
  rw [hv]
  exact je_virt (y := 85) (as := [v0]) D142_8 rfl (by decide) (by decide) rfl hcl hw hv
theorem D142_11 : decode (jt_code 142) 11 = .ok (.astore_n 1, 1) := by decide +kernel
theorem E142_11 {call : jv_F} {l0 l1 : Option Value} {a : Nat} {st : List Value} {h : jv_H} (hk : ¬ jv_is2 (some l0) = true) : jv_ev call 142 11 [l0, l1] (.ref a :: st) h = jv_ev call 142 12 [l0, some (.ref a)] st h := je_astore_n (r := some a) D142_11 rfl (Nat.le_of_ble_eq_true rfl) (by show jv_st1 _ 1 _ = _; simp only [jv_st1, jv_kill, List.getElem?_cons_succ, List.getElem?_cons_zero, hk, if_false]; rfl)
theorem E142_11r {call : jv_F} {l0 l1 : Option Value} {r : Option Nat} {st : List Value} {h : jv_H} (hk : ¬ jv_is2 (some l0) = true) : jv_ev call 142 11 [l0, l1] (va_rf r :: st) h = jv_ev call 142 12 [l0, some (va_rf r)] st h := je_astore_n (r := r) D142_11 rfl (Nat.le_of_ble_eq_true rfl) (by show jv_st1 _ 1 _ = _; simp only [jv_st1, jv_kill, List.getElem?_cons_succ, List.getElem?_cons_zero, hk, if_false]; rfl)
theorem D142_12 : decode (jt_code 142) 12 = .ok (.aload_n 1, 1) := by decide +kernel
theorem E142_12 {call : jv_F} {l0 : Option Value} {a : Nat} {st : List Value} {h : jv_H} : jv_ev call 142 12 [l0, some (.ref a)] st h = jv_ev call 142 13 [l0, some (.ref a)] (.ref a :: st) h := je_aload_n (r := some a) D142_12 rfl rfl
theorem E142_12r {call : jv_F} {l0 : Option Value} {r : Option Nat} {st : List Value} {h : jv_H} : jv_ev call 142 12 [l0, some (va_rf r)] st h = jv_ev call 142 13 [l0, some (va_rf r)] (va_rf r :: st) h := je_aload_n (r := r) D142_12 rfl rfl
theorem D142_13 : decode (jt_code 142) 13 = .ok (.ifnonnull 4, 3) := by decide +kernel
theorem E142_13r {call : jv_F} {l0 l1 : Option Value} {x : Option Nat} {st : List Value} {h : jv_H} : jv_ev call 142 13 [l0, l1] (va_rf x :: st) h = if x = none then jv_ev call 142 16 [l0, l1] st h else jv_ev call 142 17 [l0, l1] st h := je_ifnonnull D142_13 (by decide) rfl
theorem E142_13 {call : jv_F} {l0 l1 : Option Value} {x : Nat} {st : List Value} {h : jv_H} : jv_ev call 142 13 [l0, l1] (.ref x :: st) h = jv_ev call 142 17 [l0, l1] st h := (je_ifnonnull (x := some x) (t := 17) D142_13 (by decide) rfl).trans (if_neg (by simp))
theorem D142_16 : decode (jt_code 142) 16 = .ok (.return_, 1) := by decide +kernel
theorem E142_16 {call : jv_F} {l0 l1 : Option Value}  {h : jv_H} : jv_ev call 142 16 [l0, l1] [] h = some (none, h) := je_ret D142_16 rfl
theorem D142_17 : decode (jt_code 142) 17 = .ok (.aload_n 1, 1) := by decide +kernel
theorem E142_17 {call : jv_F} {l0 : Option Value} {a : Nat} {st : List Value} {h : jv_H} : jv_ev call 142 17 [l0, some (.ref a)] st h = jv_ev call 142 18 [l0, some (.ref a)] (.ref a :: st) h := je_aload_n (r := some a) D142_17 rfl rfl
theorem E142_17r {call : jv_F} {l0 : Option Value} {r : Option Nat} {st : List Value} {h : jv_H} : jv_ev call 142 17 [l0, some (va_rf r)] st h = jv_ev call 142 18 [l0, some (va_rf r)] (va_rf r :: st) h := je_aload_n (r := r) D142_17 rfl rfl
theorem D142_18 : decode (jt_code 142) 18 = .ok (.getfield 226, 3) := by decide +kernel
theorem E142_18 {call : jv_F} {l0 l1 : Option Value} {a : Nat} {st : List Value} {h : jv_H} (hs : (jv_gf h a 1 5).isSome = true) : jv_ev call 142 18 [l0, l1] (.ref a :: st) h = jv_ev call 142 21 [l0, l1] ((jv_gf h a 1 5).getD .null :: st) h := by
  obtain ⟨v, hv⟩ := Option.isSome_iff_exists.mp hs
  rw [hv]
  exact je_get D142_18 rfl (by decide) hv
theorem D142_21 : decode (jt_code 142) 21 = .ok (.ifCond .ne 15, 3) := by decide +kernel
theorem E142_21 {call : jv_F} {l0 l1 : Option Value} {x : Int32} {st : List Value} {h : jv_H} : jv_ev call 142 21 [l0, l1] (.int x :: st) h = if ¬ x = 0 then jv_ev call 142 36 [l0, l1] st h else jv_ev call 142 24 [l0, l1] st h := je_ifc D142_21 (by decide) rfl rfl
theorem D142_24 : decode (jt_code 142) 24 = .ok (.aload_n 1, 1) := by decide +kernel
theorem E142_24 {call : jv_F} {l0 : Option Value} {a : Nat} {st : List Value} {h : jv_H} : jv_ev call 142 24 [l0, some (.ref a)] st h = jv_ev call 142 25 [l0, some (.ref a)] (.ref a :: st) h := je_aload_n (r := some a) D142_24 rfl rfl
theorem E142_24r {call : jv_F} {l0 : Option Value} {r : Option Nat} {st : List Value} {h : jv_H} : jv_ev call 142 24 [l0, some (va_rf r)] st h = jv_ev call 142 25 [l0, some (va_rf r)] (va_rf r :: st) h := je_aload_n (r := r) D142_24 rfl rfl
theorem D142_25 : decode (jt_code 142) 25 = .ok (.aload_n 0, 1) := by decide +kernel
theorem E142_25 {call : jv_F} {l1 : Option Value} {a : Nat} {st : List Value} {h : jv_H} : jv_ev call 142 25 [some (.ref a), l1] st h = jv_ev call 142 26 [some (.ref a), l1] (.ref a :: st) h := je_aload_n (r := some a) D142_25 rfl rfl
theorem D142_26 : decode (jt_code 142) 26 = .ok (.getfield 19, 3) := by decide +kernel
theorem E142_26 {call : jv_F} {l0 l1 : Option Value} {a : Nat} {st : List Value} {h : jv_H} (hs : (jv_gf h a 6 1).isSome = true) : jv_ev call 142 26 [l0, l1] (.ref a :: st) h = jv_ev call 142 29 [l0, l1] ((jv_gf h a 6 1).getD .null :: st) h := by
  obtain ⟨v, hv⟩ := Option.isSome_iff_exists.mp hs
  rw [hv]
  exact je_get D142_26 rfl (by decide) hv
theorem D142_29 : decode (jt_code 142) 29 = .ok (.getfield 143, 3) := by decide +kernel
theorem E142_29 {call : jv_F} {l0 l1 : Option Value} {a : Nat} {st : List Value} {h : jv_H} (hs : (jv_gf h a 2 3).isSome = true) : jv_ev call 142 29 [l0, l1] (.ref a :: st) h = jv_ev call 142 32 [l0, l1] ((jv_gf h a 2 3).getD .null :: st) h := by
  obtain ⟨v, hv⟩ := Option.isSome_iff_exists.mp hs
  rw [hv]
  exact je_get D142_29 rfl (by decide) hv
theorem D142_32 : decode (jt_code 142) 32 = .ok (.invokevirtual 229, 3) := by decide +kernel
theorem E142_32 {call : jv_F} {l0 l1 : Option Value} {b : Nat} {v0 : Value}  {st : List Value} {h : jv_H} (hw : jv_wide st = true) (hcl : jv_cl h b = some 1) (hc : (call 61 [.ref b, v0] h).isSome = true) : jv_ev call 142 32 [l0, l1] (v0 :: .ref b :: st) h = jv_ev call 142 35 [l0, l1] ((((call 61 [.ref b, v0] h).getD (none, h)).1).toList ++ st) ((call 61 [.ref b, v0] h).getD (none, h)).2 := by
  obtain ⟨⟨r, h'⟩, hv⟩ := Option.isSome_iff_exists.mp hc
  rw [hv]
  exact je_virt (y := 61) (as := [v0]) D142_32 rfl (by decide) (by decide) rfl hcl hw hv
theorem D142_35 : decode (jt_code 142) 35 = .ok (.return_, 1) := by decide +kernel
theorem E142_35 {call : jv_F} {l0 l1 : Option Value}  {h : jv_H} : jv_ev call 142 35 [l0, l1] [] h = some (none, h) := je_ret D142_35 rfl
theorem D142_36 : decode (jt_code 142) 36 = .ok (.aload_n 0, 1) := by decide +kernel
theorem E142_36 {call : jv_F} {l1 : Option Value} {a : Nat} {st : List Value} {h : jv_H} : jv_ev call 142 36 [some (.ref a), l1] st h = jv_ev call 142 37 [some (.ref a), l1] (.ref a :: st) h := je_aload_n (r := some a) D142_36 rfl rfl
theorem D142_37 : decode (jt_code 142) 37 = .ok (.getfield 19, 3) := by decide +kernel
theorem E142_37 {call : jv_F} {l0 l1 : Option Value} {a : Nat} {st : List Value} {h : jv_H} (hs : (jv_gf h a 6 1).isSome = true) : jv_ev call 142 37 [l0, l1] (.ref a :: st) h = jv_ev call 142 40 [l0, l1] ((jv_gf h a 6 1).getD .null :: st) h := by
  obtain ⟨v, hv⟩ := Option.isSome_iff_exists.mp hs
  rw [hv]
  exact je_get D142_37 rfl (by decide) hv
theorem D142_40 : decode (jt_code 142) 40 = .ok (.aload_n 1, 1) := by decide +kernel
theorem E142_40 {call : jv_F} {l0 : Option Value} {a : Nat} {st : List Value} {h : jv_H} : jv_ev call 142 40 [l0, some (.ref a)] st h = jv_ev call 142 41 [l0, some (.ref a)] (.ref a :: st) h := je_aload_n (r := some a) D142_40 rfl rfl
theorem E142_40r {call : jv_F} {l0 : Option Value} {r : Option Nat} {st : List Value} {h : jv_H} : jv_ev call 142 40 [l0, some (va_rf r)] st h = jv_ev call 142 41 [l0, some (va_rf r)] (va_rf r :: st) h := je_aload_n (r := r) D142_40 rfl rfl
theorem D142_41 : decode (jt_code 142) 41 = .ok (.invokevirtual 232, 3) := by decide +kernel
theorem E142_41 {call : jv_F} {l0 l1 : Option Value} {b : Nat} {v0 : Value}  {st : List Value} {h : jv_H} (hw : jv_wide st = true) (hcl : jv_cl h b = some 2) (hc : (call 72 [.ref b, v0] h).isSome = true) : jv_ev call 142 41 [l0, l1] (v0 :: .ref b :: st) h = jv_ev call 142 44 [l0, l1] ((((call 72 [.ref b, v0] h).getD (none, h)).1).toList ++ st) ((call 72 [.ref b, v0] h).getD (none, h)).2 := by
  obtain ⟨⟨r, h'⟩, hv⟩ := Option.isSome_iff_exists.mp hc
  rw [hv]
  exact je_virt (y := 72) (as := [v0]) D142_41 rfl (by decide) (by decide) rfl hcl hw hv
theorem D142_44 : decode (jt_code 142) 44 = .ok (.aload_n 1, 1) := by decide +kernel
theorem E142_44 {call : jv_F} {l0 : Option Value} {a : Nat} {st : List Value} {h : jv_H} : jv_ev call 142 44 [l0, some (.ref a)] st h = jv_ev call 142 45 [l0, some (.ref a)] (.ref a :: st) h := je_aload_n (r := some a) D142_44 rfl rfl
theorem E142_44r {call : jv_F} {l0 : Option Value} {r : Option Nat} {st : List Value} {h : jv_H} : jv_ev call 142 44 [l0, some (va_rf r)] st h = jv_ev call 142 45 [l0, some (va_rf r)] (va_rf r :: st) h := je_aload_n (r := r) D142_44 rfl rfl
theorem D142_45 : decode (jt_code 142) 45 = .ok (.iconst 0, 1) := by decide +kernel
theorem E142_45 {call : jv_F} {l0 l1 : Option Value}  {st : List Value} {h : jv_H} : jv_ev call 142 45 [l0, l1] st h = jv_ev call 142 46 [l0, l1] (.int (nI 0) :: st) h := je_iconst D142_45 rfl (by decide)
theorem D142_46 : decode (jt_code 142) 46 = .ok (.putfield 170, 3) := by decide +kernel
theorem E142_46 {call : jv_F} {l0 l1 : Option Value} {a : Nat} {v : Value} {st : List Value} {h : jv_H} (hs : (jv_pf h a 1 4 v).isSome = true) : jv_ev call 142 46 [l0, l1] (v :: .ref a :: st) h = jv_ev call 142 49 [l0, l1] st ((jv_pf h a 1 4 v).getD h) := by
  obtain ⟨h', hv⟩ := Option.isSome_iff_exists.mp hs
  rw [hv]
  exact je_put D142_46 rfl (by decide) (by decide) hv
theorem D142_49 : decode (jt_code 142) 49 = .ok (.aload_n 1, 1) := by decide +kernel
theorem E142_49 {call : jv_F} {l0 : Option Value} {a : Nat} {st : List Value} {h : jv_H} : jv_ev call 142 49 [l0, some (.ref a)] st h = jv_ev call 142 50 [l0, some (.ref a)] (.ref a :: st) h := je_aload_n (r := some a) D142_49 rfl rfl
theorem E142_49r {call : jv_F} {l0 : Option Value} {r : Option Nat} {st : List Value} {h : jv_H} : jv_ev call 142 49 [l0, some (va_rf r)] st h = jv_ev call 142 50 [l0, some (va_rf r)] (va_rf r :: st) h := je_aload_n (r := r) D142_49 rfl rfl
theorem D142_50 : decode (jt_code 142) 50 = .ok (.iconst 0, 1) := by decide +kernel
theorem E142_50 {call : jv_F} {l0 l1 : Option Value}  {st : List Value} {h : jv_H} : jv_ev call 142 50 [l0, l1] st h = jv_ev call 142 51 [l0, l1] (.int (nI 0) :: st) h := je_iconst D142_50 rfl (by decide)
theorem D142_51 : decode (jt_code 142) 51 = .ok (.putfield 226, 3) := by decide +kernel
theorem E142_51 {call : jv_F} {l0 l1 : Option Value} {a : Nat} {v : Value} {st : List Value} {h : jv_H} (hs : (jv_pf h a 1 5 v).isSome = true) : jv_ev call 142 51 [l0, l1] (v :: .ref a :: st) h = jv_ev call 142 54 [l0, l1] st ((jv_pf h a 1 5 v).getD h) := by
  obtain ⟨h', hv⟩ := Option.isSome_iff_exists.mp hs
  rw [hv]
  exact je_put D142_51 rfl (by decide) (by decide) hv
theorem D142_54 : decode (jt_code 142) 54 = .ok (.aload_n 1, 1) := by decide +kernel
theorem E142_54 {call : jv_F} {l0 : Option Value} {a : Nat} {st : List Value} {h : jv_H} : jv_ev call 142 54 [l0, some (.ref a)] st h = jv_ev call 142 55 [l0, some (.ref a)] (.ref a :: st) h := je_aload_n (r := some a) D142_54 rfl rfl
theorem E142_54r {call : jv_F} {l0 : Option Value} {r : Option Nat} {st : List Value} {h : jv_H} : jv_ev call 142 54 [l0, some (va_rf r)] st h = jv_ev call 142 55 [l0, some (va_rf r)] (va_rf r :: st) h := je_aload_n (r := r) D142_54 rfl rfl
theorem D142_55 : decode (jt_code 142) 55 = .ok (.getfield 163, 3) := by decide +kernel
theorem E142_55 {call : jv_F} {l0 l1 : Option Value} {a : Nat} {st : List Value} {h : jv_H} (hs : (jv_gf h a 1 0).isSome = true) : jv_ev call 142 55 [l0, l1] (.ref a :: st) h = jv_ev call 142 58 [l0, l1] ((jv_gf h a 1 0).getD .null :: st) h := by
  obtain ⟨v, hv⟩ := Option.isSome_iff_exists.mp hs
  rw [hv]
  exact je_get D142_55 rfl (by decide) hv
theorem D142_58 : decode (jt_code 142) 58 = .ok (.getfield 113, 3) := by decide +kernel
theorem E142_58 {call : jv_F} {l0 l1 : Option Value} {a : Nat} {st : List Value} {h : jv_H} (hs : (jv_gf h a 4 12).isSome = true) : jv_ev call 142 58 [l0, l1] (.ref a :: st) h = jv_ev call 142 61 [l0, l1] ((jv_gf h a 4 12).getD .null :: st) h := by
  obtain ⟨v, hv⟩ := Option.isSome_iff_exists.mp hs
  rw [hv]
  exact je_get D142_58 rfl (by decide) hv
theorem D142_61 : decode (jt_code 142) 61 = .ok (.ifCond .eq 8, 3) := by decide +kernel
theorem E142_61 {call : jv_F} {l0 l1 : Option Value} {x : Int32} {st : List Value} {h : jv_H} : jv_ev call 142 61 [l0, l1] (.int x :: st) h = if x = 0 then jv_ev call 142 69 [l0, l1] st h else jv_ev call 142 64 [l0, l1] st h := je_ifc D142_61 (by decide) rfl rfl
theorem D142_64 : decode (jt_code 142) 64 = .ok (.aload_n 0, 1) := by decide +kernel
theorem E142_64 {call : jv_F} {l1 : Option Value} {a : Nat} {st : List Value} {h : jv_H} : jv_ev call 142 64 [some (.ref a), l1] st h = jv_ev call 142 65 [some (.ref a), l1] (.ref a :: st) h := je_aload_n (r := some a) D142_64 rfl rfl
theorem D142_65 : decode (jt_code 142) 65 = .ok (.aload_n 1, 1) := by decide +kernel
theorem E142_65 {call : jv_F} {l0 : Option Value} {a : Nat} {st : List Value} {h : jv_H} : jv_ev call 142 65 [l0, some (.ref a)] st h = jv_ev call 142 66 [l0, some (.ref a)] (.ref a :: st) h := je_aload_n (r := some a) D142_65 rfl rfl
theorem E142_65r {call : jv_F} {l0 : Option Value} {r : Option Nat} {st : List Value} {h : jv_H} : jv_ev call 142 65 [l0, some (va_rf r)] st h = jv_ev call 142 66 [l0, some (va_rf r)] (va_rf r :: st) h := je_aload_n (r := r) D142_65 rfl rfl
theorem D142_66 : decode (jt_code 142) 66 = .ok (.invokevirtual 235, 3) := by decide +kernel
theorem E142_66 {call : jv_F} {l0 l1 : Option Value} {b : Nat} {v0 : Value}  {st : List Value} {h : jv_H} (hw : jv_wide st = true) (hcl : jv_cl h b = some 6) (hc : (call 152 [.ref b, v0] h).isSome = true) : jv_ev call 142 66 [l0, l1] (v0 :: .ref b :: st) h = jv_ev call 142 69 [l0, l1] ((((call 152 [.ref b, v0] h).getD (none, h)).1).toList ++ st) ((call 152 [.ref b, v0] h).getD (none, h)).2 := by
  obtain ⟨⟨r, h'⟩, hv⟩ := Option.isSome_iff_exists.mp hc
  rw [hv]
  exact je_virt (y := 152) (as := [v0]) D142_66 rfl (by decide) (by decide) rfl hcl hw hv
theorem D142_69 : decode (jt_code 142) 69 = .ok (.return_, 1) := by decide +kernel
theorem E142_69 {call : jv_F} {l0 l1 : Option Value}  {h : jv_H} : jv_ev call 142 69 [l0, l1] [] h = some (none, h) := je_ret D142_69 rfl
/-! method 143: DrumMachine.chooseVictim -/
theorem N143 {d : Nat} {b : Nat} {h : jv_H} : jv_run (d + 1) 143 [.ref b] h = jv_ev (jv_run d) 143 0 [some (.ref b), none] [] h := jv_run_eq (Nat.le_of_ble_eq_true rfl) rfl
theorem D143_0 : decode (jt_code 143) 0 = .ok (.aload_n 0, 1) := by decide +kernel
theorem E143_0 {call : jv_F} {l1 : Option Value} {a : Nat} {st : List Value} {h : jv_H} : jv_ev call 143 0 [some (.ref a), l1] st h = jv_ev call 143 1 [some (.ref a), l1] (.ref a :: st) h := je_aload_n (r := some a) D143_0 rfl rfl
theorem D143_1 : decode (jt_code 143) 1 = .ok (.getfield 19, 3) := by decide +kernel
theorem E143_1 {call : jv_F} {l0 l1 : Option Value} {a : Nat} {st : List Value} {h : jv_H} (hs : (jv_gf h a 6 1).isSome = true) : jv_ev call 143 1 [l0, l1] (.ref a :: st) h = jv_ev call 143 4 [l0, l1] ((jv_gf h a 6 1).getD .null :: st) h := by
  obtain ⟨v, hv⟩ := Option.isSome_iff_exists.mp hs
  rw [hv]
  exact je_get D143_1 rfl (by decide) hv
theorem D143_4 : decode (jt_code 143) 4 = .ok (.getfield 238, 3) := by decide +kernel
theorem E143_4 {call : jv_F} {l0 l1 : Option Value} {a : Nat} {st : List Value} {h : jv_H} (hs : (jv_gf h a 2 2).isSome = true) : jv_ev call 143 4 [l0, l1] (.ref a :: st) h = jv_ev call 143 7 [l0, l1] ((jv_gf h a 2 2).getD .null :: st) h := by
  obtain ⟨v, hv⟩ := Option.isSome_iff_exists.mp hs
  rw [hv]
  exact je_get D143_4 rfl (by decide) hv
theorem D143_7 : decode (jt_code 143) 7 = .ok (.ifCond .gt 13, 3) := by decide +kernel
theorem E143_7 {call : jv_F} {l0 l1 : Option Value} {x : Int32} {st : List Value} {h : jv_H} : jv_ev call 143 7 [l0, l1] (.int x :: st) h = if 0 < x then jv_ev call 143 20 [l0, l1] st h else jv_ev call 143 10 [l0, l1] st h := je_ifc D143_7 (by decide) rfl rfl
theorem D143_10 : decode (jt_code 143) 10 = .ok (.aload_n 0, 1) := by decide +kernel
theorem E143_10 {call : jv_F} {l1 : Option Value} {a : Nat} {st : List Value} {h : jv_H} : jv_ev call 143 10 [some (.ref a), l1] st h = jv_ev call 143 11 [some (.ref a), l1] (.ref a :: st) h := je_aload_n (r := some a) D143_10 rfl rfl
theorem D143_11 : decode (jt_code 143) 11 = .ok (.getfield 26, 3) := by decide +kernel
theorem E143_11 {call : jv_F} {l0 l1 : Option Value} {a : Nat} {st : List Value} {h : jv_H} (hs : (jv_gf h a 6 2).isSome = true) : jv_ev call 143 11 [l0, l1] (.ref a :: st) h = jv_ev call 143 14 [l0, l1] ((jv_gf h a 6 2).getD .null :: st) h := by
  obtain ⟨v, hv⟩ := Option.isSome_iff_exists.mp hs
  rw [hv]
  exact je_get D143_11 rfl (by decide) hv
theorem D143_14 : decode (jt_code 143) 14 = .ok (.getfield 241, 3) := by decide +kernel
theorem E143_14 {call : jv_F} {l0 l1 : Option Value} {a : Nat} {st : List Value} {h : jv_H} (hs : (jv_gf h a 3 5).isSome = true) : jv_ev call 143 14 [l0, l1] (.ref a :: st) h = jv_ev call 143 17 [l0, l1] ((jv_gf h a 3 5).getD .null :: st) h := by
  obtain ⟨v, hv⟩ := Option.isSome_iff_exists.mp hs
  rw [hv]
  exact je_get D143_14 rfl (by decide) hv
theorem D143_17 : decode (jt_code 143) 17 = .ok (.ifCond .eq 4, 3) := by decide +kernel
theorem E143_17 {call : jv_F} {l0 l1 : Option Value} {x : Int32} {st : List Value} {h : jv_H} : jv_ev call 143 17 [l0, l1] (.int x :: st) h = if x = 0 then jv_ev call 143 21 [l0, l1] st h else jv_ev call 143 20 [l0, l1] st h := je_ifc D143_17 (by decide) rfl rfl
theorem D143_20 : decode (jt_code 143) 20 = .ok (.return_, 1) := by decide +kernel
theorem E143_20 {call : jv_F} {l0 l1 : Option Value}  {h : jv_H} : jv_ev call 143 20 [l0, l1] [] h = some (none, h) := je_ret D143_20 rfl
theorem D143_21 : decode (jt_code 143) 21 = .ok (.aload_n 0, 1) := by decide +kernel
theorem E143_21 {call : jv_F} {l1 : Option Value} {a : Nat} {st : List Value} {h : jv_H} : jv_ev call 143 21 [some (.ref a), l1] st h = jv_ev call 143 22 [some (.ref a), l1] (.ref a :: st) h := je_aload_n (r := some a) D143_21 rfl rfl
theorem D143_22 : decode (jt_code 143) 22 = .ok (.getfield 19, 3) := by decide +kernel
theorem E143_22 {call : jv_F} {l0 l1 : Option Value} {a : Nat} {st : List Value} {h : jv_H} (hs : (jv_gf h a 6 1).isSome = true) : jv_ev call 143 22 [l0, l1] (.ref a :: st) h = jv_ev call 143 25 [l0, l1] ((jv_gf h a 6 1).getD .null :: st) h := by
  obtain ⟨v, hv⟩ := Option.isSome_iff_exists.mp hs
  rw [hv]
  exact je_get D143_22 rfl (by decide) hv
theorem D143_25 : decode (jt_code 143) 25 = .ok (.invokevirtual 244, 3) := by decide +kernel
theorem E143_25 {call : jv_F} {l0 l1 : Option Value} {b : Nat}  {st : List Value} {h : jv_H} (hw : jv_wide st = true) (hcl : jv_cl h b = some 2) (hc : (call 73 [.ref b] h).isSome = true) : jv_ev call 143 25 [l0, l1] (.ref b :: st) h = jv_ev call 143 28 [l0, l1] ((((call 73 [.ref b] h).getD (none, h)).1).toList ++ st) ((call 73 [.ref b] h).getD (none, h)).2 := by
  obtain ⟨⟨r, h'⟩, hv⟩ := Option.isSome_iff_exists.mp hc
  rw [hv]
  exact je_virt (y := 73) (as := []) D143_25 rfl (by decide) (by decide) rfl hcl hw hv
theorem D143_28 : decode (jt_code 143) 28 = .ok (.astore_n 1, 1) := by decide +kernel
theorem E143_28 {call : jv_F} {l0 l1 : Option Value} {a : Nat} {st : List Value} {h : jv_H} (hk : ¬ jv_is2 (some l0) = true) : jv_ev call 143 28 [l0, l1] (.ref a :: st) h = jv_ev call 143 29 [l0, some (.ref a)] st h := je_astore_n (r := some a) D143_28 rfl (Nat.le_of_ble_eq_true rfl) (by show jv_st1 _ 1 _ = _; simp only [jv_st1, jv_kill, List.getElem?_cons_succ, List.getElem?_cons_zero, hk, if_false]; rfl)
theorem E143_28r {call : jv_F} {l0 l1 : Option Value} {r : Option Nat} {st : List Value} {h : jv_H} (hk : ¬ jv_is2 (some l0) = true) : jv_ev call 143 28 [l0, l1] (va_rf r :: st) h = jv_ev call 143 29 [l0, some (va_rf r)] st h := je_astore_n (r := r) D143_28 rfl (Nat.le_of_ble_eq_true rfl) (by show jv_st1 _ 1 _ = _; simp only [jv_st1, jv_kill, List.getElem?_cons_succ, List.getElem?_cons_zero, hk, if_false]; rfl)
theorem D143_29 : decode (jt_code 143) 29 = .ok (.aload_n 1, 1) := by decide +kernel
theorem E143_29 {call : jv_F} {l0 : Option Value} {a : Nat} {st : List Value} {h : jv_H} : jv_ev call 143 29 [l0, some (.ref a)] st h = jv_ev call 143 30 [l0, some (.ref a)] (.ref a :: st) h := je_aload_n (r := some a) D143_29 rfl rfl
theorem E143_29r {call : jv_F} {l0 : Option Value} {r : Option Nat} {st : List Value} {h : jv_H} : jv_ev call 143 29 [l0, some (va_rf r)] st h = jv_ev call 143 30 [l0, some (va_rf r)] (va_rf r :: st) h := je_aload_n (r := r) D143_29 rfl rfl
theorem D143_30 : decode (jt_code 143) 30 = .ok (.ifnull 32, 3) := by decide +kernel
theorem E143_30r {call : jv_F} {l0 l1 : Option Value} {x : Option Nat} {st : List Value} {h : jv_H} : jv_ev call 143 30 [l0, l1] (va_rf x :: st) h = if x = none then jv_ev call 143 62 [l0, l1] st h else jv_ev call 143 33 [l0, l1] st h := je_ifnull D143_30 (by decide) rfl
theorem E143_30 {call : jv_F} {l0 l1 : Option Value} {x : Nat} {st : List Value} {h : jv_H} : jv_ev call 143 30 [l0, l1] (.ref x :: st) h = jv_ev call 143 33 [l0, l1] st h := (je_ifnull (x := some x) (t := 62) D143_30 (by decide) rfl).trans (if_neg (by simp))
theorem D143_33 : decode (jt_code 143) 33 = .ok (.aload_n 1, 1) := by decide +kernel
theorem E143_33 {call : jv_F} {l0 : Option Value} {a : Nat} {st : List Value} {h : jv_H} : jv_ev call 143 33 [l0, some (.ref a)] st h = jv_ev call 143 34 [l0, some (.ref a)] (.ref a :: st) h := je_aload_n (r := some a) D143_33 rfl rfl
theorem E143_33r {call : jv_F} {l0 : Option Value} {r : Option Nat} {st : List Value} {h : jv_H} : jv_ev call 143 33 [l0, some (va_rf r)] st h = jv_ev call 143 34 [l0, some (va_rf r)] (va_rf r :: st) h := je_aload_n (r := r) D143_33 rfl rfl
theorem D143_34 : decode (jt_code 143) 34 = .ok (.iconst 1, 1) := by decide +kernel
theorem E143_34 {call : jv_F} {l0 l1 : Option Value}  {st : List Value} {h : jv_H} : jv_ev call 143 34 [l0, l1] st h = jv_ev call 143 35 [l0, l1] (.int (nI 1) :: st) h := je_iconst D143_34 rfl (by decide)
theorem D143_35 : decode (jt_code 143) 35 = .ok (.putfield 170, 3) := by decide +kernel
theorem E143_35 {call : jv_F} {l0 l1 : Option Value} {a : Nat} {v : Value} {st : List Value} {h : jv_H} (hs : (jv_pf h a 1 4 v).isSome = true) : jv_ev call 143 35 [l0, l1] (v :: .ref a :: st) h = jv_ev call 143 38 [l0, l1] st ((jv_pf h a 1 4 v).getD h) := by
  obtain ⟨h', hv⟩ := Option.isSome_iff_exists.mp hs
  rw [hv]
  exact je_put D143_35 rfl (by decide) (by decide) hv
theorem D143_38 : decode (jt_code 143) 38 = .ok (.aload_n 1, 1) := by decide +kernel
theorem E143_38 {call : jv_F} {l0 : Option Value} {a : Nat} {st : List Value} {h : jv_H} : jv_ev call 143 38 [l0, some (.ref a)] st h = jv_ev call 143 39 [l0, some (.ref a)] (.ref a :: st) h := je_aload_n (r := some a) D143_38 rfl rfl
theorem E143_38r {call : jv_F} {l0 : Option Value} {r : Option Nat} {st : List Value} {h : jv_H} : jv_ev call 143 38 [l0, some (va_rf r)] st h = jv_ev call 143 39 [l0, some (va_rf r)] (va_rf r :: st) h := je_aload_n (r := r) D143_38 rfl rfl
theorem D143_39 : decode (jt_code 143) 39 = .ok (.iconst 1, 1) := by decide +kernel
theorem E143_39 {call : jv_F} {l0 l1 : Option Value}  {st : List Value} {h : jv_H} : jv_ev call 143 39 [l0, l1] st h = jv_ev call 143 40 [l0, l1] (.int (nI 1) :: st) h := je_iconst D143_39 rfl (by decide)
theorem D143_40 : decode (jt_code 143) 40 = .ok (.putfield 226, 3) := by decide +kernel
theorem E143_40 {call : jv_F} {l0 l1 : Option Value} {a : Nat} {v : Value} {st : List Value} {h : jv_H} (hs : (jv_pf h a 1 5 v).isSome = true) : jv_ev call 143 40 [l0, l1] (v :: .ref a :: st) h = jv_ev call 143 43 [l0, l1] st ((jv_pf h a 1 5 v).getD h) := by
  obtain ⟨h', hv⟩ := Option.isSome_iff_exists.mp hs
  rw [hv]
  exact je_put D143_40 rfl (by decide) (by decide) hv
theorem D143_43 : decode (jt_code 143) 43 = .ok (.aload_n 1, 1) := by decide +kernel
theorem E143_43 {call : jv_F} {l0 : Option Value} {a : Nat} {st : List Value} {h : jv_H} : jv_ev call 143 43 [l0, some (.ref a)] st h = jv_ev call 143 44 [l0, some (.ref a)] (.ref a :: st) h := je_aload_n (r := some a) D143_43 rfl rfl
theorem E143_43r {call : jv_F} {l0 : Option Value} {r : Option Nat} {st : List Value} {h : jv_H} : jv_ev call 143 43 [l0, some (va_rf r)] st h = jv_ev call 143 44 [l0, some (va_rf r)] (va_rf r :: st) h := je_aload_n (r := r) D143_43 rfl rfl
theorem D143_44 : decode (jt_code 143) 44 = .ok (.aload_n 0, 1) := by decide +kernel
theorem E143_44 {call : jv_F} {l1 : Option Value} {a : Nat} {st : List Value} {h : jv_H} : jv_ev call 143 44 [some (.ref a), l1] st h = jv_ev call 143 45 [some (.ref a), l1] (.ref a :: st) h := je_aload_n (r := some a) D143_44 rfl rfl
theorem D143_45 : decode (jt_code 143) 45 = .ok (.getfield 19, 3) := by decide +kernel
theorem E143_45 {call : jv_F} {l0 l1 : Option Value} {a : Nat} {st : List Value} {h : jv_H} (hs : (jv_gf h a 6 1).isSome = true) : jv_ev call 143 45 [l0, l1] (.ref a :: st) h = jv_ev call 143 48 [l0, l1] ((jv_gf h a 6 1).getD .null :: st) h := by
  obtain ⟨v, hv⟩ := Option.isSome_iff_exists.mp hs
  rw [hv]
  exact je_get D143_45 rfl (by decide) hv
theorem D143_48 : decode (jt_code 143) 48 = .ok (.getfield 143, 3) := by decide +kernel
theorem E143_48 {call : jv_F} {l0 l1 : Option Value} {a : Nat} {st : List Value} {h : jv_H} (hs : (jv_gf h a 2 3).isSome = true) : jv_ev call 143 48 [l0, l1] (.ref a :: st) h = jv_ev call 143 51 [l0, l1] ((jv_gf h a 2 3).getD .null :: st) h := by
  obtain ⟨v, hv⟩ := Option.isSome_iff_exists.mp hs
  rw [hv]
  exact je_get D143_48 rfl (by decide) hv
theorem D143_51 : decode (jt_code 143) 51 = .ok (.putfield 248, 3) := by decide +kernel
theorem E143_51 {call : jv_F} {l0 l1 : Option Value} {a : Nat} {v : Value} {st : List Value} {h : jv_H} (hs : (jv_pf h a 1 9 v).isSome = true) : jv_ev call 143 51 [l0, l1] (v :: .ref a :: st) h = jv_ev call 143 54 [l0, l1] st ((jv_pf h a 1 9 v).getD h) := by
  obtain ⟨h', hv⟩ := Option.isSome_iff_exists.mp hs
  rw [hv]
  exact je_put D143_51 rfl (by decide) (by decide) hv
theorem D143_54 : decode (jt_code 143) 54 = .ok (.aload_n 0, 1) := by decide +kernel
theorem E143_54 {call : jv_F} {l1 : Option Value} {a : Nat} {st : List Value} {h : jv_H} : jv_ev call 143 54 [some (.ref a), l1] st h = jv_ev call 143 55 [some (.ref a), l1] (.ref a :: st) h := je_aload_n (r := some a) D143_54 rfl rfl
theorem D143_55 : decode (jt_code 143) 55 = .ok (.getfield 26, 3) := by decide +kernel
theorem E143_55 {call : jv_F} {l0 l1 : Option Value} {a : Nat} {st : List Value} {h : jv_H} (hs : (jv_gf h a 6 2).isSome = true) : jv_ev call 143 55 [l0, l1] (.ref a :: st) h = jv_ev call 143 58 [l0, l1] ((jv_gf h a 6 2).getD .null :: st) h := by
  obtain ⟨v, hv⟩ := Option.isSome_iff_exists.mp hs
  rw [hv]
  exact je_get D143_55 rfl (by decide) hv
theorem D143_58 : decode (jt_code 143) 58 = .ok (.aload_n 1, 1) := by decide +kernel
theorem E143_58 {call : jv_F} {l0 : Option Value} {a : Nat} {st : List Value} {h : jv_H} : jv_ev call 143 58 [l0, some (.ref a)] st h = jv_ev call 143 59 [l0, some (.ref a)] (.ref a :: st) h := je_aload_n (r := some a) D143_58 rfl rfl
theorem E143_58r {call : jv_F} {l0 : Option Value} {r : Option Nat} {st : List Value} {h : jv_H} : jv_ev call 143 58 [l0, some (va_rf r)] st h = jv_ev call 143 59 [l0, some (va_rf r)] (va_rf r :: st) h := je_aload_n (r := r) D143_58 rfl rfl
theorem D143_59 : decode (jt_code 143) 59 = .ok (.invokevirtual 251, 3) := by decide +kernel
theorem E143_59 {call : jv_F} {l0 l1 : Option Value} {b : Nat} {v0 : Value}  {st : List Value} {h : jv_H} (hw : jv_wide st = true) (hcl : jv_cl h b = some 3) (hc : (call 81 [.ref b, v0] h).isSome = true) : jv_ev call 143 59 [l0, l1] (v0 :: .ref b :: st) h = jv_ev call 143 62 [l0, l1] ((((call 81 [.ref b, v0] h).getD (none, h)).1).toList ++ st) ((call 81 [.ref b, v0] h).getD (none, h)).2 := by
  obtain ⟨⟨r, h'⟩, hv⟩ := Option.isSome_iff_exists.mp hc
  rw [hv]
  exact je_virt (y := 81) (as := [v0]) D143_59 rfl (by decide) (by decide) rfl hcl hw hv
theorem D143_62 : decode (jt_code 143) 62 = .ok (.return_, 1) := by decide +kernel
theorem E143_62 {call : jv_F} {l0 l1 : Option Value}  {h : jv_H} : jv_ev call 143 62 [l0, l1] [] h = some (none, h) := je_ret D143_62 rfl
/-! method 144: DrumMachine.nextInHand -/
theorem N144 {d : Nat} {b : Nat} {h : jv_H} : jv_run (d + 1) 144 [.ref b] h = jv_ev (jv_run d) 144 0 [some (.ref b), none, none, none, none] [] h := jv_run_eq (Nat.le_of_ble_eq_true rfl) rfl
theorem D144_0 : decode (jt_code 144) 0 = .ok (.aload_n 0, 1) := by decide +kernel
theorem E144_0 {call : jv_F} {l1 l2 l3 l4 : Option Value} {a : Nat} {st : List Value} {h : jv_H} : jv_ev call 144 0 [some (.ref a), l1, l2, l3, l4] st h = jv_ev call 144 1 [some (.ref a), l1, l2, l3, l4] (.ref a :: st) h := je_aload_n (r := some a) D144_0 rfl rfl
theorem D144_1 : decode (jt_code 144) 1 = .ok (.getfield 46, 3) := by decide +kernel
theorem E144_1 {call : jv_F} {l0 l1 l2 l3 l4 : Option Value} {a : Nat} {st : List Value} {h : jv_H} (hs : (jv_gf h a 6 7).isSome = true) : jv_ev call 144 1 [l0, l1, l2, l3, l4] (.ref a :: st) h = jv_ev call 144 4 [l0, l1, l2, l3, l4] ((jv_gf h a 6 7).getD .null :: st) h := by
  obtain ⟨v, hv⟩ := Option.isSome_iff_exists.mp hs
  rw [hv]
  exact je_get D144_1 rfl (by decide) hv
theorem D144_4 : decode (jt_code 144) 4 = .ok (.iconst 0, 1) := by decide +kernel
theorem E144_4 {call : jv_F} {l0 l1 l2 l3 l4 : Option Value}  {st : List Value} {h : jv_H} : jv_ev call 144 4 [l0, l1, l2, l3, l4] st h = jv_ev call 144 5 [l0, l1, l2, l3, l4] (.int (nI 0) :: st) h := je_iconst D144_4 rfl (by decide)
theorem D144_5 : decode (jt_code 144) 5 = .ok (.invokestatic 254, 3) := by decide +kernel
theorem E144_5 {call : jv_F} {l0 l1 l2 l3 l4 : Option Value} {v0 v1 : Value}  {st : List Value} {h : jv_H} (hw : jv_wide st = true) (hc : (call 156 [v0, v1] h).isSome = true) : jv_ev call 144 5 [l0, l1, l2, l3, l4] (v1 :: v0 :: st) h = jv_ev call 144 8 [l0, l1, l2, l3, l4] ((((call 156 [v0, v1] h).getD (none, h)).1).toList ++ st) ((call 156 [v0, v1] h).getD (none, h)).2 := by
  obtain ⟨⟨r, h'⟩, hv⟩ := Option.isSome_iff_exists.mp hc
  rw [hv]
  exact je_stat (y := 156) (as := [v0, v1]) D144_5 rfl (by decide) (by decide) rfl hw hv
theorem D144_8 : decode (jt_code 144) 8 = .ok (.istore_n 1, 1) := by decide +kernel
theorem E144_8 {call : jv_F} {l0 l1 l2 l3 l4 : Option Value} {x : Int32} {st : List Value} {h : jv_H} (hk : ¬ jv_is2 (some l0) = true) : jv_ev call 144 8 [l0, l1, l2, l3, l4] (.int x :: st) h = jv_ev call 144 9 [l0, some (.int x), l2, l3, l4] st h := je_istore_n D144_8 rfl (Nat.le_of_ble_eq_true rfl) (by show jv_st1 _ 1 _ = _; simp only [jv_st1, jv_kill, List.getElem?_cons_succ, List.getElem?_cons_zero, hk, if_false]; rfl)
theorem D144_9 : decode (jt_code 144) 9 = .ok (.iconst 0, 1) := by decide +kernel
theorem E144_9 {call : jv_F} {l0 l1 l2 l3 l4 : Option Value}  {st : List Value} {h : jv_H} : jv_ev call 144 9 [l0, l1, l2, l3, l4] st h = jv_ev call 144 10 [l0, l1, l2, l3, l4] (.int (nI 0) :: st) h := je_iconst D144_9 rfl (by decide)
theorem D144_10 : decode (jt_code 144) 10 = .ok (.istore_n 2, 1) := by decide +kernel
theorem E144_10 {call : jv_F} {l0 l1 l2 l3 l4 : Option Value} {x : Int32} {st : List Value} {h : jv_H} (hk : ¬ jv_is2 (some l1) = true) : jv_ev call 144 10 [l0, l1, l2, l3, l4] (.int x :: st) h = jv_ev call 144 11 [l0, l1, some (.int x), l3, l4] st h := je_istore_n D144_10 rfl (Nat.le_of_ble_eq_true rfl) (by show jv_st1 _ 2 _ = _; simp only [jv_st1, jv_kill, List.getElem?_cons_succ, List.getElem?_cons_zero, hk, if_false]; rfl)
theorem D144_11 : decode (jt_code 144) 11 = .ok (.iload_n 2, 1) := by decide +kernel
theorem E144_11 {call : jv_F} {l0 l1 l3 l4 : Option Value} {x : Int32} {st : List Value} {h : jv_H} : jv_ev call 144 11 [l0, l1, some (.int x), l3, l4] st h = jv_ev call 144 12 [l0, l1, some (.int x), l3, l4] (.int x :: st) h := je_iload_n D144_11 rfl rfl
theorem D144_12 : decode (jt_code 144) 12 = .ok (.aload_n 0, 1) := by decide +kernel
theorem E144_12 {call : jv_F} {l1 l2 l3 l4 : Option Value} {a : Nat} {st : List Value} {h : jv_H} : jv_ev call 144 12 [some (.ref a), l1, l2, l3, l4] st h = jv_ev call 144 13 [some (.ref a), l1, l2, l3, l4] (.ref a :: st) h := je_aload_n (r := some a) D144_12 rfl rfl
theorem D144_13 : decode (jt_code 144) 13 = .ok (.getfield 36, 3) := by decide +kernel
theorem E144_13 {call : jv_F} {l0 l1 l2 l3 l4 : Option Value} {a : Nat} {st : List Value} {h : jv_H} (hs : (jv_gf h a 6 4).isSome = true) : jv_ev call 144 13 [l0, l1, l2, l3, l4] (.ref a :: st) h = jv_ev call 144 16 [l0, l1, l2, l3, l4] ((jv_gf h a 6 4).getD .null :: st) h := by
  obtain ⟨v, hv⟩ := Option.isSome_iff_exists.mp hs
  rw [hv]
  exact je_get D144_13 rfl (by decide) hv
theorem D144_16 : decode (jt_code 144) 16 = .ok (.if_icmp .ge 79, 3) := by decide +kernel
theorem E144_16 {call : jv_F} {l0 l1 l2 l3 l4 : Option Value} {x y : Int32} {st : List Value} {h : jv_H} : jv_ev call 144 16 [l0, l1, l2, l3, l4] (.int y :: .int x :: st) h = if y ≤ x then jv_ev call 144 95 [l0, l1, l2, l3, l4] st h else jv_ev call 144 19 [l0, l1, l2, l3, l4] st h := je_icmp D144_16 (by decide) rfl rfl
theorem D144_19 : decode (jt_code 144) 19 = .ok (.iload_n 1, 1) := by decide +kernel
theorem E144_19 {call : jv_F} {l0 l2 l3 l4 : Option Value} {x : Int32} {st : List Value} {h : jv_H} : jv_ev call 144 19 [l0, some (.int x), l2, l3, l4] st h = jv_ev call 144 20 [l0, some (.int x), l2, l3, l4] (.int x :: st) h := je_iload_n D144_19 rfl rfl
theorem D144_20 : decode (jt_code 144) 20 = .ok (.iload_n 2, 1) := by decide +kernel
theorem E144_20 {call : jv_F} {l0 l1 l3 l4 : Option Value} {x : Int32} {st : List Value} {h : jv_H} : jv_ev call 144 20 [l0, l1, some (.int x), l3, l4] st h = jv_ev call 144 21 [l0, l1, some (.int x), l3, l4] (.int x :: st) h := je_iload_n D144_20 rfl rfl
theorem D144_21 : decode (jt_code 144) 21 = .ok (.iadd, 1) := by decide +kernel
theorem E144_21 {call : jv_F} {l0 l1 l2 l3 l4 : Option Value} {x y : Int32} {st : List Value} {h : jv_H} : jv_ev call 144 21 [l0, l1, l2, l3, l4] (.int y :: .int x :: st) h = jv_ev call 144 22 [l0, l1, l2, l3, l4] (.int (x + y) :: st) h := je_b2 (f := fun x y => x + y) D144_21 rfl (fun _ => rfl)
theorem D144_22 : decode (jt_code 144) 22 = .ok (.aload_n 0, 1) := by decide +kernel
theorem E144_22 {call : jv_F} {l1 l2 l3 l4 : Option Value} {a : Nat} {st : List Value} {h : jv_H} : jv_ev call 144 22 [some (.ref a), l1, l2, l3, l4] st h = jv_ev call 144 23 [some (.ref a), l1, l2, l3, l4] (.ref a :: st) h := je_aload_n (r := some a) D144_22 rfl rfl
theorem D144_23 : decode (jt_code 144) 23 = .ok (.getfield 36, 3) := by decide +kernel
theorem E144_23 {call : jv_F} {l0 l1 l2 l3 l4 : Option Value} {a : Nat} {st : List Value} {h : jv_H} (hs : (jv_gf h a 6 4).isSome = true) : jv_ev call 144 23 [l0, l1, l2, l3, l4] (.ref a :: st) h = jv_ev call 144 26 [l0, l1, l2, l3, l4] ((jv_gf h a 6 4).getD .null :: st) h := by
  obtain ⟨v, hv⟩ := Option.isSome_iff_exists.mp hs
  rw [hv]
  exact je_get D144_23 rfl (by decide) hv
theorem D144_26 : decode (jt_code 144) 26 = .ok (.if_icmp .ge 9, 3) := by decide +kernel
theorem E144_26 {call : jv_F} {l0 l1 l2 l3 l4 : Option Value} {x y : Int32} {st : List Value} {h : jv_H} : jv_ev call 144 26 [l0, l1, l2, l3, l4] (.int y :: .int x :: st) h = if y ≤ x then jv_ev call 144 35 [l0, l1, l2, l3, l4] st h else jv_ev call 144 29 [l0, l1, l2, l3, l4] st h := je_icmp D144_26 (by decide) rfl rfl
theorem D144_29 : decode (jt_code 144) 29 = .ok (.iload_n 1, 1) := by decide +kernel
theorem E144_29 {call : jv_F} {l0 l2 l3 l4 : Option Value} {x : Int32} {st : List Value} {h : jv_H} : jv_ev call 144 29 [l0, some (.int x), l2, l3, l4] st h = jv_ev call 144 30 [l0, some (.int x), l2, l3, l4] (.int x :: st) h := je_iload_n D144_29 rfl rfl
theorem D144_30 : decode (jt_code 144) 30 = .ok (.iload_n 2, 1) := by decide +kernel
theorem E144_30 {call : jv_F} {l0 l1 l3 l4 : Option Value} {x : Int32} {st : List Value} {h : jv_H} : jv_ev call 144 30 [l0, l1, some (.int x), l3, l4] st h = jv_ev call 144 31 [l0, l1, some (.int x), l3, l4] (.int x :: st) h := je_iload_n D144_30 rfl rfl
theorem D144_31 : decode (jt_code 144) 31 = .ok (.iadd, 1) := by decide +kernel
theorem E144_31 {call : jv_F} {l0 l1 l2 l3 l4 : Option Value} {x y : Int32} {st : List Value} {h : jv_H} : jv_ev call 144 31 [l0, l1, l2, l3, l4] (.int y :: .int x :: st) h = jv_ev call 144 32 [l0, l1, l2, l3, l4] (.int (x + y) :: st) h := je_b2 (f := fun x y => x + y) D144_31 rfl (fun _ => rfl)
theorem D144_32 : decode (jt_code 144) 32 = .ok (.goto 11, 3) := by decide +kernel
theorem E144_32 {call : jv_F} {l0 l1 l2 l3 l4 : Option Value}  {st : List Value} {h : jv_H} : jv_ev call 144 32 [l0, l1, l2, l3, l4] st h = jv_ev call 144 43 [l0, l1, l2, l3, l4] st h := je_goto D144_32 (by decide)
theorem D144_35 : decode (jt_code 144) 35 = .ok (.iload_n 1, 1) := by decide +kernel
theorem E144_35 {call : jv_F} {l0 l2 l3 l4 : Option Value} {x : Int32} {st : List Value} {h : jv_H} : jv_ev call 144 35 [l0, some (.int x), l2, l3, l4] st h = jv_ev call 144 36 [l0, some (.int x), l2, l3, l4] (.int x :: st) h := je_iload_n D144_35 rfl rfl
theorem D144_36 : decode (jt_code 144) 36 = .ok (.iload_n 2, 1) := by decide +kernel
theorem E144_36 {call : jv_F} {l0 l1 l3 l4 : Option Value} {x : Int32} {st : List Value} {h : jv_H} : jv_ev call 144 36 [l0, l1, some (.int x), l3, l4] st h = jv_ev call 144 37 [l0, l1, some (.int x), l3, l4] (.int x :: st) h := je_iload_n D144_36 rfl rfl
theorem D144_37 : decode (jt_code 144) 37 = .ok (.iadd, 1) := by decide +kernel
theorem E144_37 {call : jv_F} {l0 l1 l2 l3 l4 : Option Value} {x y : Int32} {st : List Value} {h : jv_H} : jv_ev call 144 37 [l0, l1, l2, l3, l4] (.int y :: .int x :: st) h = jv_ev call 144 38 [l0, l1, l2, l3, l4] (.int (x + y) :: st) h := je_b2 (f := fun x y => x + y) D144_37 rfl (fun _ => rfl)
theorem D144_38 : decode (jt_code 144) 38 = .ok (.aload_n 0, 1) := by decide +kernel
theorem E144_38 {call : jv_F} {l1 l2 l3 l4 : Option Value} {a : Nat} {st : List Value} {h : jv_H} : jv_ev call 144 38 [some (.ref a), l1, l2, l3, l4] st h = jv_ev call 144 39 [some (.ref a), l1, l2, l3, l4] (.ref a :: st) h := je_aload_n (r := some a) D144_38 rfl rfl
theorem D144_39 : decode (jt_code 144) 39 = .ok (.getfield 36, 3) := by decide +kernel
theorem E144_39 {call : jv_F} {l0 l1 l2 l3 l4 : Option Value} {a : Nat} {st : List Value} {h : jv_H} (hs : (jv_gf h a 6 4).isSome = true) : jv_ev call 144 39 [l0, l1, l2, l3, l4] (.ref a :: st) h = jv_ev call 144 42 [l0, l1, l2, l3, l4] ((jv_gf h a 6 4).getD .null :: st) h := by
  obtain ⟨v, hv⟩ := Option.isSome_iff_exists.mp hs
  rw [hv]
  exact je_get D144_39 rfl (by decide) hv
theorem D144_42 : decode (jt_code 144) 42 = .ok (.isub, 1) := by decide +kernel
theorem E144_42 {call : jv_F} {l0 l1 l2 l3 l4 : Option Value} {x y : Int32} {st : List Value} {h : jv_H} : jv_ev call 144 42 [l0, l1, l2, l3, l4] (.int y :: .int x :: st) h = jv_ev call 144 43 [l0, l1, l2, l3, l4] (.int (x - y) :: st) h := je_b2 (f := fun x y => x - y) D144_42 rfl (fun _ => rfl)
theorem D144_43 : decode (jt_code 144) 43 = .ok (.istore_n 3, 1) := by decide +kernel
theorem E144_43 {call : jv_F} {l0 l1 l2 l3 l4 : Option Value} {x : Int32} {st : List Value} {h : jv_H} (hk : ¬ jv_is2 (some l2) = true) : jv_ev call 144 43 [l0, l1, l2, l3, l4] (.int x :: st) h = jv_ev call 144 44 [l0, l1, l2, some (.int x), l4] st h := je_istore_n D144_43 rfl (Nat.le_of_ble_eq_true rfl) (by show jv_st1 _ 3 _ = _; simp only [jv_st1, jv_kill, List.getElem?_cons_succ, List.getElem?_cons_zero, hk, if_false]; rfl)
theorem D144_44 : decode (jt_code 144) 44 = .ok (.aload_n 0, 1) := by decide +kernel
theorem E144_44 {call : jv_F} {l1 l2 l3 l4 : Option Value} {a : Nat} {st : List Value} {h : jv_H} : jv_ev call 144 44 [some (.ref a), l1, l2, l3, l4] st h = jv_ev call 144 45 [some (.ref a), l1, l2, l3, l4] (.ref a :: st) h := je_aload_n (r := some a) D144_44 rfl rfl
theorem D144_45 : decode (jt_code 144) 45 = .ok (.iload_n 3, 1) := by decide +kernel
theorem E144_45 {call : jv_F} {l0 l1 l2 l4 : Option Value} {x : Int32} {st : List Value} {h : jv_H} : jv_ev call 144 45 [l0, l1, l2, some (.int x), l4] st h = jv_ev call 144 46 [l0, l1, l2, some (.int x), l4] (.int x :: st) h := je_iload_n D144_45 rfl rfl
theorem D144_46 : decode (jt_code 144) 46 = .ok (.invokevirtual 109, 3) := by decide +kernel
theorem E144_46 {call : jv_F} {l0 l1 l2 l3 l4 : Option Value} {b : Nat} {v0 : Value}  {st : List Value} {h : jv_H} (hw : jv_wide st = true) (hcl : jv_cl h b = some 6) (hc : (call 139 [.ref b, v0] h).isSome = true) : jv_ev call 144 46 [l0, l1, l2, l3, l4] (v0 :: .ref b :: st) h = jv_ev call 144 49 [l0, l1, l2, l3, l4] ((((call 139 [.ref b, v0] h).getD (none, h)).1).toList ++ st) ((call 139 [.ref b, v0] h).getD (none, h)).2 := by
  obtain ⟨⟨r, h'⟩, hv⟩ := Option.isSome_iff_exists.mp hc
  rw [hv]
  exact je_virt (y := 139) (as := [v0]) D144_46 rfl (by decide) (by decide) rfl hcl hw hv
theorem D144_49 : decode (jt_code 144) 49 = .ok (.astore 4, 2) := by decide +kernel
theorem E144_49 {call : jv_F} {l0 l1 l2 l3 l4 : Option Value} {a : Nat} {st : List Value} {h : jv_H} (hk : ¬ jv_is2 (some l3) = true) : jv_ev call 144 49 [l0, l1, l2, l3, l4] (.ref a :: st) h = jv_ev call 144 51 [l0, l1, l2, l3, some (.ref a)] st h := je_astore (r := some a) D144_49 rfl (Nat.le_of_ble_eq_true rfl) (by show jv_st1 _ 4 _ = _; simp only [jv_st1, jv_kill, List.getElem?_cons_succ, List.getElem?_cons_zero, hk, if_false]; rfl)
theorem E144_49r {call : jv_F} {l0 l1 l2 l3 l4 : Option Value} {r : Option Nat} {st : List Value} {h : jv_H} (hk : ¬ jv_is2 (some l3) = true) : jv_ev call 144 49 [l0, l1, l2, l3, l4] (va_rf r :: st) h = jv_ev call 144 51 [l0, l1, l2, l3, some (va_rf r)] st h := je_astore (r := r) D144_49 rfl (Nat.le_of_ble_eq_true rfl) (by show jv_st1 _ 4 _ = _; simp only [jv_st1, jv_kill, List.getElem?_cons_succ, List.getElem?_cons_zero, hk, if_false]; rfl)
theorem D144_51 : decode (jt_code 144) 51 = .ok (.aload 4, 2) := by decide +kernel
theorem E144_51 {call : jv_F} {l0 l1 l2 l3 : Option Value} {a : Nat} {st : List Value} {h : jv_H} : jv_ev call 144 51 [l0, l1, l2, l3, some (.ref a)] st h = jv_ev call 144 53 [l0, l1, l2, l3, some (.ref a)] (.ref a :: st) h := je_aload (r := some a) D144_51 rfl rfl
theorem E144_51r {call : jv_F} {l0 l1 l2 l3 : Option Value} {r : Option Nat} {st : List Value} {h : jv_H} : jv_ev call 144 51 [l0, l1, l2, l3, some (va_rf r)] st h = jv_ev call 144 53 [l0, l1, l2, l3, some (va_rf r)] (va_rf r :: st) h := je_aload (r := r) D144_51 rfl rfl
theorem D144_53 : decode (jt_code 144) 53 = .ok (.ifnull 36, 3) := by decide +kernel
theorem E144_53r {call : jv_F} {l0 l1 l2 l3 l4 : Option Value} {x : Option Nat} {st : List Value} {h : jv_H} : jv_ev call 144 53 [l0, l1, l2, l3, l4] (va_rf x :: st) h = if x = none then jv_ev call 144 89 [l0, l1, l2, l3, l4] st h else jv_ev call 144 56 [l0, l1, l2, l3, l4] st h := je_ifnull D144_53 (by decide) rfl
theorem E144_53 {call : jv_F} {l0 l1 l2 l3 l4 : Option Value} {x : Nat} {st : List Value} {h : jv_H} : jv_ev call 144 53 [l0, l1, l2, l3, l4] (.ref x :: st) h = jv_ev call 144 56 [l0, l1, l2, l3, l4] st h := (je_ifnull (x := some x) (t := 89) D144_53 (by decide) rfl).trans (if_neg (by simp))
theorem D144_56 : decode (jt_code 144) 56 = .ok (.aload 4, 2) := by decide +kernel
theorem E144_56 {call : jv_F} {l0 l1 l2 l3 : Option Value} {a : Nat} {st : List Value} {h : jv_H} : jv_ev call 144 56 [l0, l1, l2, l3, some (.ref a)] st h = jv_ev call 144 58 [l0, l1, l2, l3, some (.ref a)] (.ref a :: st) h := je_aload (r := some a) D144_56 rfl rfl
theorem E144_56r {call : jv_F} {l0 l1 l2 l3 : Option Value} {r : Option Nat} {st : List Value} {h : jv_H} : jv_ev call 144 56 [l0, l1, l2, l3, some (va_rf r)] st h = jv_ev call 144 58 [l0, l1, l2, l3, some (va_rf r)] (va_rf r :: st) h := je_aload (r := r) D144_56 rfl rfl
theorem D144_58 : decode (jt_code 144) 58 = .ok (.getfield 197, 3) := by decide +kernel
theorem E144_58 {call : jv_F} {l0 l1 l2 l3 l4 : Option Value} {a : Nat} {st : List Value} {h : jv_H} (hs : (jv_gf h a 4 13).isSome = true) : jv_ev call 144 58 [l0, l1, l2, l3, l4] (.ref a :: st) h = jv_ev call 144 61 [l0, l1, l2, l3, l4] ((jv_gf h a 4 13).getD .null :: st) h := by
  obtain ⟨v, hv⟩ := Option.isSome_iff_exists.mp hs
  rw [hv]
  exact je_get D144_58 rfl (by decide) hv
theorem D144_61 : decode (jt_code 144) 61 = .ok (.ifCond .eq 28, 3) := by decide +kernel
theorem E144_61 {call : jv_F} {l0 l1 l2 l3 l4 : Option Value} {x : Int32} {st : List Value} {h : jv_H} : jv_ev call 144 61 [l0, l1, l2, l3, l4] (.int x :: st) h = if x = 0 then jv_ev call 144 89 [l0, l1, l2, l3, l4] st h else jv_ev call 144 64 [l0, l1, l2, l3, l4] st h := je_ifc D144_61 (by decide) rfl rfl
theorem D144_64 : decode (jt_code 144) 64 = .ok (.aload 4, 2) := by decide +kernel
theorem E144_64 {call : jv_F} {l0 l1 l2 l3 : Option Value} {a : Nat} {st : List Value} {h : jv_H} : jv_ev call 144 64 [l0, l1, l2, l3, some (.ref a)] st h = jv_ev call 144 66 [l0, l1, l2, l3, some (.ref a)] (.ref a :: st) h := je_aload (r := some a) D144_64 rfl rfl
theorem E144_64r {call : jv_F} {l0 l1 l2 l3 : Option Value} {r : Option Nat} {st : List Value} {h : jv_H} : jv_ev call 144 64 [l0, l1, l2, l3, some (va_rf r)] st h = jv_ev call 144 66 [l0, l1, l2, l3, some (va_rf r)] (va_rf r :: st) h := je_aload (r := r) D144_64 rfl rfl
theorem D144_66 : decode (jt_code 144) 66 = .ok (.aload_n 0, 1) := by decide +kernel
theorem E144_66 {call : jv_F} {l1 l2 l3 l4 : Option Value} {a : Nat} {st : List Value} {h : jv_H} : jv_ev call 144 66 [some (.ref a), l1, l2, l3, l4] st h = jv_ev call 144 67 [some (.ref a), l1, l2, l3, l4] (.ref a :: st) h := je_aload_n (r := some a) D144_66 rfl rfl
theorem D144_67 : decode (jt_code 144) 67 = .ok (.getfield 19, 3) := by decide +kernel
theorem E144_67 {call : jv_F} {l0 l1 l2 l3 l4 : Option Value} {a : Nat} {st : List Value} {h : jv_H} (hs : (jv_gf h a 6 1).isSome = true) : jv_ev call 144 67 [l0, l1, l2, l3, l4] (.ref a :: st) h = jv_ev call 144 70 [l0, l1, l2, l3, l4] ((jv_gf h a 6 1).getD .null :: st) h := by
  obtain ⟨v, hv⟩ := Option.isSome_iff_exists.mp hs
  rw [hv]
  exact je_get D144_67 rfl (by decide) hv
theorem D144_70 : decode (jt_code 144) 70 = .ok (.getfield 238, 3) := by decide +kernel
theorem E144_70 {call : jv_F} {l0 l1 l2 l3 l4 : Option Value} {a : Nat} {st : List Value} {h : jv_H} (hs : (jv_gf h a 2 2).isSome = true) : jv_ev call 144 70 [l0, l1, l2, l3, l4] (.ref a :: st) h = jv_ev call 144 73 [l0, l1, l2, l3, l4] ((jv_gf h a 2 2).getD .null :: st) h := by
  obtain ⟨v, hv⟩ := Option.isSome_iff_exists.mp hs
  rw [hv]
  exact je_get D144_70 rfl (by decide) hv
theorem D144_73 : decode (jt_code 144) 73 = .ok (.ifCond .le 7, 3) := by decide +kernel
theorem E144_73 {call : jv_F} {l0 l1 l2 l3 l4 : Option Value} {x : Int32} {st : List Value} {h : jv_H} : jv_ev call 144 73 [l0, l1, l2, l3, l4] (.int x :: st) h = if x ≤ 0 then jv_ev call 144 80 [l0, l1, l2, l3, l4] st h else jv_ev call 144 76 [l0, l1, l2, l3, l4] st h := je_ifc D144_73 (by decide) rfl rfl
theorem D144_76 : decode (jt_code 144) 76 = .ok (.iconst 1, 1) := by decide +kernel
theorem E144_76 {call : jv_F} {l0 l1 l2 l3 l4 : Option Value}  {st : List Value} {h : jv_H} : jv_ev call 144 76 [l0, l1, l2, l3, l4] st h = jv_ev call 144 77 [l0, l1, l2, l3, l4] (.int (nI 1) :: st) h := je_iconst D144_76 rfl (by decide)
theorem D144_77 : decode (jt_code 144) 77 = .ok (.goto 4, 3) := by decide +kernel
theorem E144_77 {call : jv_F} {l0 l1 l2 l3 l4 : Option Value}  {st : List Value} {h : jv_H} : jv_ev call 144 77 [l0, l1, l2, l3, l4] st h = jv_ev call 144 81 [l0, l1, l2, l3, l4] st h := je_goto D144_77 (by decide)
theorem D144_80 : decode (jt_code 144) 80 = .ok (.iconst 0, 1) := by decide +kernel
theorem E144_80 {call : jv_F} {l0 l1 l2 l3 l4 : Option Value}  {st : List Value} {h : jv_H} : jv_ev call 144 80 [l0, l1, l2, l3, l4] st h = jv_ev call 144 81 [l0, l1, l2, l3, l4] (.int (nI 0) :: st) h := je_iconst D144_80 rfl (by decide)
theorem D144_81 : decode (jt_code 144) 81 = .ok (.invokevirtual 257, 3) := by decide +kernel
theorem E144_81 {call : jv_F} {l0 l1 l2 l3 l4 : Option Value} {b : Nat} {v0 : Value}  {st : List Value} {h : jv_H} (hw : jv_wide st = true) (hcl : jv_cl h b = some 4) (hc : (call 92 [.ref b, v0] h).isSome = true) : jv_ev call 144 81 [l0, l1, l2, l3, l4] (v0 :: .ref b :: st) h = jv_ev call 144 84 [l0, l1, l2, l3, l4] ((((call 92 [.ref b, v0] h).getD (none, h)).1).toList ++ st) ((call 92 [.ref b, v0] h).getD (none, h)).2 := by
  obtain ⟨⟨r, h'⟩, hv⟩ := Option.isSome_iff_exists.mp hc
  rw [hv]
  exact je_virt (y := 92) (as := [v0]) D144_81 rfl (by decide) (by decide) rfl hcl hw hv
theorem D144_84 : decode (jt_code 144) 84 = .ok (.ifCond .eq 5, 3) := by decide +kernel
theorem E144_84 {call : jv_F} {l0 l1 l2 l3 l4 : Option Value} {x : Int32} {st : List Value} {h : jv_H} : jv_ev call 144 84 [l0, l1, l2, l3, l4] (.int x :: st) h = if x = 0 then jv_ev call 144 89 [l0, l1, l2, l3, l4] st h else jv_ev call 144 87 [l0, l1, l2, l3, l4] st h := je_ifc D144_84 (by decide) rfl rfl
theorem D144_87 : decode (jt_code 144) 87 = .ok (.iload_n 3, 1) := by decide +kernel
theorem E144_87 {call : jv_F} {l0 l1 l2 l4 : Option Value} {x : Int32} {st : List Value} {h : jv_H} : jv_ev call 144 87 [l0, l1, l2, some (.int x), l4] st h = jv_ev call 144 88 [l0, l1, l2, some (.int x), l4] (.int x :: st) h := je_iload_n D144_87 rfl rfl
theorem D144_88 : decode (jt_code 144) 88 = .ok (.ireturn, 1) := by decide +kernel
theorem E144_88 {call : jv_F} {l0 l1 l2 l3 l4 : Option Value} {v : Int32} {h : jv_H} : jv_ev call 144 88 [l0, l1, l2, l3, l4] [.int v] h = some (some (.int v), h) := je_iret (ty := .int) D144_88 rfl rfl rfl
theorem D144_89 : decode (jt_code 144) 89 = .ok (.iinc 2 1, 3) := by decide +kernel
theorem E144_89 {call : jv_F} {l0 l1 l3 l4 : Option Value} {x : Int32} {st : List Value} {h : jv_H} (hk : ¬ jv_is2 (some l1) = true) : jv_ev call 144 89 [l0, l1, some (.int x), l3, l4] st h = jv_ev call 144 92 [l0, l1, some (.int (x + (nI 1))), l3, l4] st h := je_iinc D144_89 rfl rfl (v := x + (nI 1)) (by rfl) (by show jv_st1 _ 2 _ = _; simp only [jv_st1, jv_kill, List.getElem?_cons_succ, List.getElem?_cons_zero, hk, if_false]; rfl)
theorem D144_92 : decode (jt_code 144) 92 = .ok (.goto (-81), 3) := by decide +kernel
theorem E144_92 {call : jv_F} {l0 l1 l2 l3 l4 : Option Value}  {st : List Value} {h : jv_H} : jv_ev call 144 92 [l0, l1, l2, l3, l4] st h = jv_ev call 144 11 [l0, l1, l2, l3, l4] st h := je_goto D144_92 (by decide)
theorem D144_95 : decode (jt_code 144) 95 = .ok (.iconst (-1), 1) := by decide +kernel
theorem E144_95 {call : jv_F} {l0 l1 l2 l3 l4 : Option Value}  {st : List Value} {h : jv_H} : jv_ev call 144 95 [l0, l1, l2, l3, l4] st h = jv_ev call 144 96 [l0, l1, l2, l3, l4] (.int (-1) :: st) h := je_iconst D144_95 rfl (by decide)
theorem D144_96 : decode (jt_code 144) 96 = .ok (.ireturn, 1) := by decide +kernel
theorem E144_96 {call : jv_F} {l0 l1 l2 l3 l4 : Option Value} {v : Int32} {h : jv_H} : jv_ev call 144 96 [l0, l1, l2, l3, l4] [.int v] h = some (some (.int v), h) := je_iret (ty := .int) D144_96 rfl rfl rfl
/-! method 145: DrumMachine.settle -/
theorem N145 {d : Nat} {b : Nat} {a0 : Option Nat} {a1 : Int32} {h : jv_H} : jv_run (d + 1) 145 [.ref b, va_rf a0, .int a1] h = jv_ev (jv_run d) 145 0 [some (.ref b), some (va_rf a0), some (.int a1)] [] h := by
  cases a0 <;>
  exact jv_run_eq (Nat.le_of_ble_eq_true rfl) rfl
theorem D145_0 : decode (jt_code 145) 0 = .ok (.iload_n 2, 1) := by decide +kernel
theorem E145_0 {call : jv_F} {l0 l1 : Option Value} {x : Int32} {st : List Value} {h : jv_H} : jv_ev call 145 0 [l0, l1, some (.int x)] st h = jv_ev call 145 1 [l0, l1, some (.int x)] (.int x :: st) h := je_iload_n D145_0 rfl rfl
theorem D145_1 : decode (jt_code 145) 1 = .ok (.iconst (-1), 1) := by decide +kernel
theorem E145_1 {call : jv_F} {l0 l1 l2 : Option Value}  {st : List Value} {h : jv_H} : jv_ev call 145 1 [l0, l1, l2] st h = jv_ev call 145 2 [l0, l1, l2] (.int (-1) :: st) h := je_iconst D145_1 rfl (by decide)
theorem D145_2 : decode (jt_code 145) 2 = .ok (.if_icmp .ne 14, 3) := by decide +kernel
theorem E145_2 {call : jv_F} {l0 l1 l2 : Option Value} {x y : Int32} {st : List Value} {h : jv_H} : jv_ev call 145 2 [l0, l1, l2] (.int y :: .int x :: st) h = if ¬ x = y then jv_ev call 145 16 [l0, l1, l2] st h else jv_ev call 145 5 [l0, l1, l2] st h := je_icmp D145_2 (by decide) rfl rfl
theorem D145_5 : decode (jt_code 145) 5 = .ok (.aload_n 0, 1) := by decide +kernel
theorem E145_5 {call : jv_F} {l1 l2 : Option Value} {a : Nat} {st : List Value} {h : jv_H} : jv_ev call 145 5 [some (.ref a), l1, l2] st h = jv_ev call 145 6 [some (.ref a), l1, l2] (.ref a :: st) h := je_aload_n (r := some a) D145_5 rfl rfl
theorem D145_6 : decode (jt_code 145) 6 = .ok (.dup, 1) := by decide +kernel
theorem E145_6 {call : jv_F} {l0 l1 l2 : Option Value} {a : Nat} {st : List Value} {h : jv_H} : jv_ev call 145 6 [l0, l1, l2] (.ref a :: st) h = jv_ev call 145 7 [l0, l1, l2] (.ref a :: .ref a :: st) h := je_dup D145_6 rfl rfl
theorem E145_6i {call : jv_F} {l0 l1 l2 : Option Value} {x : Int32} {st : List Value} {h : jv_H} : jv_ev call 145 6 [l0, l1, l2] (.int x :: st) h = jv_ev call 145 7 [l0, l1, l2] (.int x :: .int x :: st) h := je_dup D145_6 rfl rfl
theorem D145_7 : decode (jt_code 145) 7 = .ok (.getfield 52, 3) := by decide +kernel
theorem E145_7 {call : jv_F} {l0 l1 l2 : Option Value} {a : Nat} {st : List Value} {h : jv_H} (hs : (jv_gf h a 6 9).isSome = true) : jv_ev call 145 7 [l0, l1, l2] (.ref a :: st) h = jv_ev call 145 10 [l0, l1, l2] ((jv_gf h a 6 9).getD .null :: st) h := by
  obtain ⟨v, hv⟩ := Option.isSome_iff_exists.mp hs
  rw [hv]
  exact je_get D145_7 rfl (by decide) hv
theorem D145_10 : decode (jt_code 145) 10 = .ok (.iconst 1, 1) := by decide +kernel
theorem E145_10 {call : jv_F} {l0 l1 l2 : Option Value}  {st : List Value} {h : jv_H} : jv_ev call 145 10 [l0, l1, l2] st h = jv_ev call 145 11 [l0, l1, l2] (.int (nI 1) :: st) h := je_iconst D145_10 rfl (by decide)
theorem D145_11 : decode (jt_code 145) 11 = .ok (.iadd, 1) := by decide +kernel
theorem E145_11 {call : jv_F} {l0 l1 l2 : Option Value} {x y : Int32} {st : List Value} {h : jv_H} : jv_ev call 145 11 [l0, l1, l2] (.int y :: .int x :: st) h = jv_ev call 145 12 [l0, l1, l2] (.int (x + y) :: st) h := je_b2 (f := fun x y => x + y) D145_11 rfl (fun _ => rfl)
theorem D145_12 : decode (jt_code 145) 12 = .ok (.putfield 52, 3) := by decide +kernel
theorem E145_12 {call : jv_F} {l0 l1 l2 : Option Value} {a : Nat} {v : Value} {st : List Value} {h : jv_H} (hs : (jv_pf h a 6 9 v).isSome = true) : jv_ev call 145 12 [l0, l1, l2] (v :: .ref a :: st) h = jv_ev call 145 15 [l0, l1, l2] st ((jv_pf h a 6 9 v).getD h) := by
  obtain ⟨h', hv⟩ := Option.isSome_iff_exists.mp hs
  rw [hv]
  exact je_put D145_12 rfl (by decide) (by decide) hv
theorem D145_15 : decode (jt_code 145) 15 = .ok (.return_, 1) := by decide +kernel
theorem E145_15 {call : jv_F} {l0 l1 l2 : Option Value}  {h : jv_H} : jv_ev call 145 15 [l0, l1, l2] [] h = some (none, h) := je_ret D145_15 rfl
theorem D145_16 : decode (jt_code 145) 16 = .ok (.iload_n 2, 1) := by decide +kernel
theorem E145_16 {call : jv_F} {l0 l1 : Option Value} {x : Int32} {st : List Value} {h : jv_H} : jv_ev call 145 16 [l0, l1, some (.int x)] st h = jv_ev call 145 17 [l0, l1, some (.int x)] (.int x :: st) h := je_iload_n D145_16 rfl rfl
theorem D145_17 : decode (jt_code 145) 17 = .ok (.ifCond .eq 9, 3) := by decide +kernel
theorem E145_17 {call : jv_F} {l0 l1 l2 : Option Value} {x : Int32} {st : List Value} {h : jv_H} : jv_ev call 145 17 [l0, l1, l2] (.int x :: st) h = if x = 0 then jv_ev call 145 26 [l0, l1, l2] st h else jv_ev call 145 20 [l0, l1, l2] st h := je_ifc D145_17 (by decide) rfl rfl
theorem D145_20 : decode (jt_code 145) 20 = .ok (.aload_n 0, 1) := by decide +kernel
theorem E145_20 {call : jv_F} {l1 l2 : Option Value} {a : Nat} {st : List Value} {h : jv_H} : jv_ev call 145 20 [some (.ref a), l1, l2] st h = jv_ev call 145 21 [some (.ref a), l1, l2] (.ref a :: st) h := je_aload_n (r := some a) D145_20 rfl rfl
theorem D145_21 : decode (jt_code 145) 21 = .ok (.aload_n 1, 1) := by decide +kernel
theorem E145_21 {call : jv_F} {l0 l2 : Option Value} {a : Nat} {st : List Value} {h : jv_H} : jv_ev call 145 21 [l0, some (.ref a), l2] st h = jv_ev call 145 22 [l0, some (.ref a), l2] (.ref a :: st) h := je_aload_n (r := some a) D145_21 rfl rfl
theorem E145_21r {call : jv_F} {l0 l2 : Option Value} {r : Option Nat} {st : List Value} {h : jv_H} : jv_ev call 145 21 [l0, some (va_rf r), l2] st h = jv_ev call 145 22 [l0, some (va_rf r), l2] (va_rf r :: st) h := je_aload_n (r := r) D145_21 rfl rfl
theorem D145_22 : decode (jt_code 145) 22 = .ok (.iload_n 2, 1) := by decide +kernel
theorem E145_22 {call : jv_F} {l0 l1 : Option Value} {x : Int32} {st : List Value} {h : jv_H} : jv_ev call 145 22 [l0, l1, some (.int x)] st h = jv_ev call 145 23 [l0, l1, some (.int x)] (.int x :: st) h := je_iload_n D145_22 rfl rfl
theorem D145_23 : decode (jt_code 145) 23 = .ok (.invokevirtual 261, 3) := by decide +kernel
theorem E145_23 {call : jv_F} {l0 l1 l2 : Option Value} {b : Nat} {v0 v1 : Value}  {st : List Value} {h : jv_H} (hw : jv_wide st = true) (hcl : jv_cl h b = some 6) (hc : (call 151 [.ref b, v0, v1] h).isSome = true) : jv_ev call 145 23 [l0, l1, l2] (v1 :: v0 :: .ref b :: st) h = jv_ev call 145 26 [l0, l1, l2] ((((call 151 [.ref b, v0, v1] h).getD (none, h)).1).toList ++ st) ((call 151 [.ref b, v0, v1] h).getD (none, h)).2 := by
  obtain ⟨⟨r, h'⟩, hv⟩ := Option.isSome_iff_exists.mp hc
  rw [hv]
  exact je_virt (y := 151) (as := [v0, v1]) D145_23 rfl (by decide) (by decide) rfl hcl hw hv
theorem D145_26 : decode (jt_code 145) 26 = .ok (.iload_n 2, 1) := by decide +kernel
theorem E145_26 {call : jv_F} {l0 l1 : Option Value} {x : Int32} {st : List Value} {h : jv_H} : jv_ev call 145 26 [l0, l1, some (.int x)] st h = jv_ev call 145 27 [l0, l1, some (.int x)] (.int x :: st) h := je_iload_n D145_26 rfl rfl
theorem D145_27 : decode (jt_code 145) 27 = .ok (.invokestatic 264, 3) := by decide +kernel
theorem E145_27 {call : jv_F} {l0 l1 l2 : Option Value} {v0 : Value}  {st : List Value} {h : jv_H} (hw : jv_wide st = true) (hc : (call 146 [v0] h).isSome = true) : jv_ev call 145 27 [l0, l1, l2] (v0 :: st) h = jv_ev call 145 30 [l0, l1, l2] ((((call 146 [v0] h).getD (none, h)).1).toList ++ st) ((call 146 [v0] h).getD (none, h)).2 := by
  obtain ⟨⟨r, h'⟩, hv⟩ := Option.isSome_iff_exists.mp hc
  rw [hv]
  exact je_stat (y := 146) (as := [v0]) D145_27 rfl (by decide) (by decide) rfl hw hv
theorem D145_30 : decode (jt_code 145) 30 = .ok (.ifCond .eq 30, 3) := by decide +kernel
theorem E145_30 {call : jv_F} {l0 l1 l2 : Option Value} {x : Int32} {st : List Value} {h : jv_H} : jv_ev call 145 30 [l0, l1, l2] (.int x :: st) h = if x = 0 then jv_ev call 145 60 [l0, l1, l2] st h else jv_ev call 145 33 [l0, l1, l2] st h := je_ifc D145_30 (by decide) rfl rfl
theorem D145_33 : decode (jt_code 145) 33 = .ok (.aload_n 0, 1) := by decide +kernel
theorem E145_33 {call : jv_F} {l1 l2 : Option Value} {a : Nat} {st : List Value} {h : jv_H} : jv_ev call 145 33 [some (.ref a), l1, l2] st h = jv_ev call 145 34 [some (.ref a), l1, l2] (.ref a :: st) h := je_aload_n (r := some a) D145_33 rfl rfl
theorem D145_34 : decode (jt_code 145) 34 = .ok (.dup, 1) := by decide +kernel
theorem E145_34 {call : jv_F} {l0 l1 l2 : Option Value} {a : Nat} {st : List Value} {h : jv_H} : jv_ev call 145 34 [l0, l1, l2] (.ref a :: st) h = jv_ev call 145 35 [l0, l1, l2] (.ref a :: .ref a :: st) h := je_dup D145_34 rfl rfl
theorem E145_34i {call : jv_F} {l0 l1 l2 : Option Value} {x : Int32} {st : List Value} {h : jv_H} : jv_ev call 145 34 [l0, l1, l2] (.int x :: st) h = jv_ev call 145 35 [l0, l1, l2] (.int x :: .int x :: st) h := je_dup D145_34 rfl rfl
theorem D145_35 : decode (jt_code 145) 35 = .ok (.getfield 58, 3) := by decide +kernel
theorem E145_35 {call : jv_F} {l0 l1 l2 : Option Value} {a : Nat} {st : List Value} {h : jv_H} (hs : (jv_gf h a 6 11).isSome = true) : jv_ev call 145 35 [l0, l1, l2] (.ref a :: st) h = jv_ev call 145 38 [l0, l1, l2] ((jv_gf h a 6 11).getD .null :: st) h := by
  obtain ⟨v, hv⟩ := Option.isSome_iff_exists.mp hs
  rw [hv]
  exact je_get D145_35 rfl (by decide) hv
theorem D145_38 : decode (jt_code 145) 38 = .ok (.iconst 1, 1) := by decide +kernel
theorem E145_38 {call : jv_F} {l0 l1 l2 : Option Value}  {st : List Value} {h : jv_H} : jv_ev call 145 38 [l0, l1, l2] st h = jv_ev call 145 39 [l0, l1, l2] (.int (nI 1) :: st) h := je_iconst D145_38 rfl (by decide)
theorem D145_39 : decode (jt_code 145) 39 = .ok (.iadd, 1) := by decide +kernel
theorem E145_39 {call : jv_F} {l0 l1 l2 : Option Value} {x y : Int32} {st : List Value} {h : jv_H} : jv_ev call 145 39 [l0, l1, l2] (.int y :: .int x :: st) h = jv_ev call 145 40 [l0, l1, l2] (.int (x + y) :: st) h := je_b2 (f := fun x y => x + y) D145_39 rfl (fun _ => rfl)
theorem D145_40 : decode (jt_code 145) 40 = .ok (.putfield 58, 3) := by decide +kernel
theorem E145_40 {call : jv_F} {l0 l1 l2 : Option Value} {a : Nat} {v : Value} {st : List Value} {h : jv_H} (hs : (jv_pf h a 6 11 v).isSome = true) : jv_ev call 145 40 [l0, l1, l2] (v :: .ref a :: st) h = jv_ev call 145 43 [l0, l1, l2] st ((jv_pf h a 6 11 v).getD h) := by
  obtain ⟨h', hv⟩ := Option.isSome_iff_exists.mp hs
  rw [hv]
  exact je_put D145_40 rfl (by decide) (by decide) hv
theorem D145_43 : decode (jt_code 145) 43 = .ok (.aload_n 0, 1) := by decide +kernel
theorem E145_43 {call : jv_F} {l1 l2 : Option Value} {a : Nat} {st : List Value} {h : jv_H} : jv_ev call 145 43 [some (.ref a), l1, l2] st h = jv_ev call 145 44 [some (.ref a), l1, l2] (.ref a :: st) h := je_aload_n (r := some a) D145_43 rfl rfl
theorem D145_44 : decode (jt_code 145) 44 = .ok (.getfield 58, 3) := by decide +kernel
theorem E145_44 {call : jv_F} {l0 l1 l2 : Option Value} {a : Nat} {st : List Value} {h : jv_H} (hs : (jv_gf h a 6 11).isSome = true) : jv_ev call 145 44 [l0, l1, l2] (.ref a :: st) h = jv_ev call 145 47 [l0, l1, l2] ((jv_gf h a 6 11).getD .null :: st) h := by
  obtain ⟨v, hv⟩ := Option.isSome_iff_exists.mp hs
  rw [hv]
  exact je_get D145_44 rfl (by decide) hv
theorem D145_47 : decode (jt_code 145) 47 = .ok (.bipush 16, 2) := by decide +kernel
theorem E145_47 {call : jv_F} {l0 l1 l2 : Option Value}  {st : List Value} {h : jv_H} : jv_ev call 145 47 [l0, l1, l2] st h = jv_ev call 145 49 [l0, l1, l2] (.int (nI 16) :: st) h := je_bipush D145_47 rfl (by decide)
theorem D145_49 : decode (jt_code 145) 49 = .ok (.irem, 1) := by decide +kernel
theorem E145_49 {call : jv_F} {l0 l1 l2 : Option Value} {x y : Int32} {st : List Value} {h : jv_H} (hy : ¬ y = 0) : jv_ev call 145 49 [l0, l1, l2] (.int y :: .int x :: st) h = jv_ev call 145 50 [l0, l1, l2] (.int (x - x / y * y) :: st) h := je_irem D145_49 rfl hy
theorem D145_50 : decode (jt_code 145) 50 = .ok (.ifCond .ne 10, 3) := by decide +kernel
theorem E145_50 {call : jv_F} {l0 l1 l2 : Option Value} {x : Int32} {st : List Value} {h : jv_H} : jv_ev call 145 50 [l0, l1, l2] (.int x :: st) h = if ¬ x = 0 then jv_ev call 145 60 [l0, l1, l2] st h else jv_ev call 145 53 [l0, l1, l2] st h := je_ifc D145_50 (by decide) rfl rfl
theorem D145_53 : decode (jt_code 145) 53 = .ok (.aload_n 0, 1) := by decide +kernel
theorem E145_53 {call : jv_F} {l1 l2 : Option Value} {a : Nat} {st : List Value} {h : jv_H} : jv_ev call 145 53 [some (.ref a), l1, l2] st h = jv_ev call 145 54 [some (.ref a), l1, l2] (.ref a :: st) h := je_aload_n (r := some a) D145_53 rfl rfl
theorem D145_54 : decode (jt_code 145) 54 = .ok (.getfield 19, 3) := by decide +kernel
theorem E145_54 {call : jv_F} {l0 l1 l2 : Option Value} {a : Nat} {st : List Value} {h : jv_H} (hs : (jv_gf h a 6 1).isSome = true) : jv_ev call 145 54 [l0, l1, l2] (.ref a :: st) h = jv_ev call 145 57 [l0, l1, l2] ((jv_gf h a 6 1).getD .null :: st) h := by
  obtain ⟨v, hv⟩ := Option.isSome_iff_exists.mp hs
  rw [hv]
  exact je_get D145_54 rfl (by decide) hv
theorem D145_57 : decode (jt_code 145) 57 = .ok (.invokevirtual 267, 3) := by decide +kernel
theorem E145_57 {call : jv_F} {l0 l1 l2 : Option Value} {b : Nat}  {st : List Value} {h : jv_H} (hw : jv_wide st = true) (hcl : jv_cl h b = some 2) (hc : (call 75 [.ref b] h).isSome = true) : jv_ev call 145 57 [l0, l1, l2] (.ref b :: st) h = jv_ev call 145 60 [l0, l1, l2] ((((call 75 [.ref b] h).getD (none, h)).1).toList ++ st) ((call 75 [.ref b] h).getD (none, h)).2 := by
  obtain ⟨⟨r, h'⟩, hv⟩ := Option.isSome_iff_exists.mp hc
  rw [hv]
  exact je_virt (y := 75) (as := []) D145_57 rfl (by decide) (by decide) rfl hcl hw hv
theorem D145_60 : decode (jt_code 145) 60 = .ok (.return_, 1) := by decide +kernel
theorem E145_60 {call : jv_F} {l0 l1 l2 : Option Value}  {h : jv_H} : jv_ev call 145 60 [l0, l1, l2] [] h = some (none, h) := je_ret D145_60 rfl
/-! method 146: DrumMachine.isCounted -/
theorem N146 {d : Nat} {a0 : Int32} {h : jv_H} : jv_run (d + 1) 146 [.int a0] h = jv_ev (jv_run d) 146 0 [some (.int a0)] [] h := jv_run_eq (Nat.le_of_ble_eq_true rfl) rfl
theorem D146_0 : decode (jt_code 146) 0 = .ok (.iload_n 0, 1) := by decide +kernel
theorem E146_0 {call : jv_F} {x : Int32} {st : List Value} {h : jv_H} : jv_ev call 146 0 [some (.int x)] st h = jv_ev call 146 1 [some (.int x)] (.int x :: st) h := je_iload_n D146_0 rfl rfl
theorem D146_1 : decode (jt_code 146) 1 = .ok (.ifCond .eq 8, 3) := by decide +kernel
theorem E146_1 {call : jv_F} {l0 : Option Value} {x : Int32} {st : List Value} {h : jv_H} : jv_ev call 146 1 [l0] (.int x :: st) h = if x = 0 then jv_ev call 146 9 [l0] st h else jv_ev call 146 4 [l0] st h := je_ifc D146_1 (by decide) rfl rfl
theorem D146_4 : decode (jt_code 146) 4 = .ok (.iload_n 0, 1) := by decide +kernel
theorem E146_4 {call : jv_F} {x : Int32} {st : List Value} {h : jv_H} : jv_ev call 146 4 [some (.int x)] st h = jv_ev call 146 5 [some (.int x)] (.int x :: st) h := je_iload_n D146_4 rfl rfl
theorem D146_5 : decode (jt_code 146) 5 = .ok (.iconst 1, 1) := by decide +kernel
theorem E146_5 {call : jv_F} {l0 : Option Value}  {st : List Value} {h : jv_H} : jv_ev call 146 5 [l0] st h = jv_ev call 146 6 [l0] (.int (nI 1) :: st) h := je_iconst D146_5 rfl (by decide)
theorem D146_6 : decode (jt_code 146) 6 = .ok (.if_icmp .ne 7, 3) := by decide +kernel
theorem E146_6 {call : jv_F} {l0 : Option Value} {x y : Int32} {st : List Value} {h : jv_H} : jv_ev call 146 6 [l0] (.int y :: .int x :: st) h = if ¬ x = y then jv_ev call 146 13 [l0] st h else jv_ev call 146 9 [l0] st h := je_icmp D146_6 (by decide) rfl rfl
theorem D146_9 : decode (jt_code 146) 9 = .ok (.iconst 1, 1) := by decide +kernel
theorem E146_9 {call : jv_F} {l0 : Option Value}  {st : List Value} {h : jv_H} : jv_ev call 146 9 [l0] st h = jv_ev call 146 10 [l0] (.int (nI 1) :: st) h := je_iconst D146_9 rfl (by decide)
theorem D146_10 : decode (jt_code 146) 10 = .ok (.goto 4, 3) := by decide +kernel
theorem E146_10 {call : jv_F} {l0 : Option Value}  {st : List Value} {h : jv_H} : jv_ev call 146 10 [l0] st h = jv_ev call 146 14 [l0] st h := je_goto D146_10 (by decide)
theorem D146_13 : decode (jt_code 146) 13 = .ok (.iconst 0, 1) := by decide +kernel
theorem E146_13 {call : jv_F} {l0 : Option Value}  {st : List Value} {h : jv_H} : jv_ev call 146 13 [l0] st h = jv_ev call 146 14 [l0] (.int (nI 0) :: st) h := je_iconst D146_13 rfl (by decide)
theorem D146_14 : decode (jt_code 146) 14 = .ok (.ireturn, 1) := by decide +kernel
theorem E146_14 {call : jv_F} {l0 : Option Value} {v : Int32} {h : jv_H} (hn : narrow .boolean (.int v) = .int v) (hf : fits .boolean (.int v) = true) : jv_ev call 146 14 [l0] [.int v] h = some (some (.int v), h) := je_iret (ty := .boolean) D146_14 rfl hn hf
/-! method 147: DrumMachine.doNextOrder -/
theorem N147 {d : Nat} {b : Nat} {a0 : Option Nat} {h : jv_H} : jv_run (d + 1) 147 [.ref b, va_rf a0] h = jv_ev (jv_run d) 147 0 [some (.ref b), some (va_rf a0), none, none, none, none, none, none, none, none] [] h := by
  cases a0 <;>
  exact jv_run_eq (Nat.le_of_ble_eq_true rfl) rfl
theorem D147_0 : decode (jt_code 147) 0 = .ok (.aload_n 1, 1) := by decide +kernel
theorem E147_0 {call : jv_F} {l0 l2 l3 l4 l5 l6 l7 l8 l9 : Option Value} {a : Nat} {st : List Value} {h : jv_H} : jv_ev call 147 0 [l0, some (.ref a), l2, l3, l4, l5, l6, l7, l8, l9] st h = jv_ev call 147 1 [l0, some (.ref a), l2, l3, l4, l5, l6, l7, l8, l9] (.ref a :: st) h := je_aload_n (r := some a) D147_0 rfl rfl
theorem E147_0r {call : jv_F} {l0 l2 l3 l4 l5 l6 l7 l8 l9 : Option Value} {r : Option Nat} {st : List Value} {h : jv_H} : jv_ev call 147 0 [l0, some (va_rf r), l2, l3, l4, l5, l6, l7, l8, l9] st h = jv_ev call 147 1 [l0, some (va_rf r), l2, l3, l4, l5, l6, l7, l8, l9] (va_rf r :: st) h := je_aload_n (r := r) D147_0 rfl rfl
theorem D147_1 : decode (jt_code 147) 1 = .ok (.getfield 116, 3) := by decide +kernel
theorem E147_1 {call : jv_F} {l0 l1 l2 l3 l4 l5 l6 l7 l8 l9 : Option Value} {a : Nat} {st : List Value} {h : jv_H} (hs : (jv_gf h a 4 11).isSome = true) : jv_ev call 147 1 [l0, l1, l2, l3, l4, l5, l6, l7, l8, l9] (.ref a :: st) h = jv_ev call 147 4 [l0, l1, l2, l3, l4, l5, l6, l7, l8, l9] ((jv_gf h a 4 11).getD .null :: st) h := by
  obtain ⟨v, hv⟩ := Option.isSome_iff_exists.mp hs
  rw [hv]
  exact je_get D147_1 rfl (by decide) hv
theorem D147_4 : decode (jt_code 147) 4 = .ok (.aload_n 1, 1) := by decide +kernel
theorem E147_4 {call : jv_F} {l0 l2 l3 l4 l5 l6 l7 l8 l9 : Option Value} {a : Nat} {st : List Value} {h : jv_H} : jv_ev call 147 4 [l0, some (.ref a), l2, l3, l4, l5, l6, l7, l8, l9] st h = jv_ev call 147 5 [l0, some (.ref a), l2, l3, l4, l5, l6, l7, l8, l9] (.ref a :: st) h := je_aload_n (r := some a) D147_4 rfl rfl
theorem E147_4r {call : jv_F} {l0 l2 l3 l4 l5 l6 l7 l8 l9 : Option Value} {r : Option Nat} {st : List Value} {h : jv_H} : jv_ev call 147 4 [l0, some (va_rf r), l2, l3, l4, l5, l6, l7, l8, l9] st h = jv_ev call 147 5 [l0, some (va_rf r), l2, l3, l4, l5, l6, l7, l8, l9] (va_rf r :: st) h := je_aload_n (r := r) D147_4 rfl rfl
theorem D147_5 : decode (jt_code 147) 5 = .ok (.getfield 270, 3) := by decide +kernel
theorem E147_5 {call : jv_F} {l0 l1 l2 l3 l4 l5 l6 l7 l8 l9 : Option Value} {a : Nat} {st : List Value} {h : jv_H} (hs : (jv_gf h a 4 1).isSome = true) : jv_ev call 147 5 [l0, l1, l2, l3, l4, l5, l6, l7, l8, l9] (.ref a :: st) h = jv_ev call 147 8 [l0, l1, l2, l3, l4, l5, l6, l7, l8, l9] ((jv_gf h a 4 1).getD .null :: st) h := by
  obtain ⟨v, hv⟩ := Option.isSome_iff_exists.mp hs
  rw [hv]
  exact je_get D147_5 rfl (by decide) hv
theorem D147_8 : decode (jt_code 147) 8 = .ok (.if_icmp .lt 5, 3) := by decide +kernel
theorem E147_8 {call : jv_F} {l0 l1 l2 l3 l4 l5 l6 l7 l8 l9 : Option Value} {x y : Int32} {st : List Value} {h : jv_H} : jv_ev call 147 8 [l0, l1, l2, l3, l4, l5, l6, l7, l8, l9] (.int y :: .int x :: st) h = if x < y then jv_ev call 147 13 [l0, l1, l2, l3, l4, l5, l6, l7, l8, l9] st h else jv_ev call 147 11 [l0, l1, l2, l3, l4, l5, l6, l7, l8, l9] st h := je_icmp D147_8 (by decide) rfl rfl
theorem D147_11 : decode (jt_code 147) 11 = .ok (.iconst 2, 1) := by decide +kernel
theorem E147_11 {call : jv_F} {l0 l1 l2 l3 l4 l5 l6 l7 l8 l9 : Option Value}  {st : List Value} {h : jv_H} : jv_ev call 147 11 [l0, l1, l2, l3, l4, l5, l6, l7, l8, l9] st h = jv_ev call 147 12 [l0, l1, l2, l3, l4, l5, l6, l7, l8, l9] (.int (nI 2) :: st) h := je_iconst D147_11 rfl (by decide)
theorem D147_12 : decode (jt_code 147) 12 = .ok (.ireturn, 1) := by decide +kernel
theorem E147_12 {call : jv_F} {l0 l1 l2 l3 l4 l5 l6 l7 l8 l9 : Option Value} {v : Int32} {h : jv_H} : jv_ev call 147 12 [l0, l1, l2, l3, l4, l5, l6, l7, l8, l9] [.int v] h = some (some (.int v), h) := je_iret (ty := .int) D147_12 rfl rfl rfl
theorem D147_13 : decode (jt_code 147) 13 = .ok (.aload_n 0, 1) := by decide +kernel
theorem E147_13 {call : jv_F} {l1 l2 l3 l4 l5 l6 l7 l8 l9 : Option Value} {a : Nat} {st : List Value} {h : jv_H} : jv_ev call 147 13 [some (.ref a), l1, l2, l3, l4, l5, l6, l7, l8, l9] st h = jv_ev call 147 14 [some (.ref a), l1, l2, l3, l4, l5, l6, l7, l8, l9] (.ref a :: st) h := je_aload_n (r := some a) D147_13 rfl rfl
theorem D147_14 : decode (jt_code 147) 14 = .ok (.aload_n 1, 1) := by decide +kernel
theorem E147_14 {call : jv_F} {l0 l2 l3 l4 l5 l6 l7 l8 l9 : Option Value} {a : Nat} {st : List Value} {h : jv_H} : jv_ev call 147 14 [l0, some (.ref a), l2, l3, l4, l5, l6, l7, l8, l9] st h = jv_ev call 147 15 [l0, some (.ref a), l2, l3, l4, l5, l6, l7, l8, l9] (.ref a :: st) h := je_aload_n (r := some a) D147_14 rfl rfl
theorem E147_14r {call : jv_F} {l0 l2 l3 l4 l5 l6 l7 l8 l9 : Option Value} {r : Option Nat} {st : List Value} {h : jv_H} : jv_ev call 147 14 [l0, some (va_rf r), l2, l3, l4, l5, l6, l7, l8, l9] st h = jv_ev call 147 15 [l0, some (va_rf r), l2, l3, l4, l5, l6, l7, l8, l9] (va_rf r :: st) h := je_aload_n (r := r) D147_14 rfl rfl
theorem D147_15 : decode (jt_code 147) 15 = .ok (.aload_n 1, 1) := by decide +kernel
theorem E147_15 {call : jv_F} {l0 l2 l3 l4 l5 l6 l7 l8 l9 : Option Value} {a : Nat} {st : List Value} {h : jv_H} : jv_ev call 147 15 [l0, some (.ref a), l2, l3, l4, l5, l6, l7, l8, l9] st h = jv_ev call 147 16 [l0, some (.ref a), l2, l3, l4, l5, l6, l7, l8, l9] (.ref a :: st) h := je_aload_n (r := some a) D147_15 rfl rfl
theorem E147_15r {call : jv_F} {l0 l2 l3 l4 l5 l6 l7 l8 l9 : Option Value} {r : Option Nat} {st : List Value} {h : jv_H} : jv_ev call 147 15 [l0, some (va_rf r), l2, l3, l4, l5, l6, l7, l8, l9] st h = jv_ev call 147 16 [l0, some (va_rf r), l2, l3, l4, l5, l6, l7, l8, l9] (va_rf r :: st) h := je_aload_n (r := r) D147_15 rfl rfl
theorem D147_16 : decode (jt_code 147) 16 = .ok (.getfield 128, 3) := by decide +kernel
theorem E147_16 {call : jv_F} {l0 l1 l2 l3 l4 l5 l6 l7 l8 l9 : Option Value} {a : Nat} {st : List Value} {h : jv_H} (hs : (jv_gf h a 4 4).isSome = true) : jv_ev call 147 16 [l0, l1, l2, l3, l4, l5, l6, l7, l8, l9] (.ref a :: st) h = jv_ev call 147 19 [l0, l1, l2, l3, l4, l5, l6, l7, l8, l9] ((jv_gf h a 4 4).getD .null :: st) h := by
  obtain ⟨v, hv⟩ := Option.isSome_iff_exists.mp hs
  rw [hv]
  exact je_get D147_16 rfl (by decide) hv
theorem D147_19 : decode (jt_code 147) 19 = .ok (.invokevirtual 273, 3) := by decide +kernel
theorem E147_19 {call : jv_F} {l0 l1 l2 l3 l4 l5 l6 l7 l8 l9 : Option Value} {b : Nat} {v0 v1 : Value}  {st : List Value} {h : jv_H} (hw : jv_wide st = true) (hcl : jv_cl h b = some 6) (hc : (call 148 [.ref b, v0, v1] h).isSome = true) : jv_ev call 147 19 [l0, l1, l2, l3, l4, l5, l6, l7, l8, l9] (v1 :: v0 :: .ref b :: st) h = jv_ev call 147 22 [l0, l1, l2, l3, l4, l5, l6, l7, l8, l9] ((((call 148 [.ref b, v0, v1] h).getD (none, h)).1).toList ++ st) ((call 148 [.ref b, v0, v1] h).getD (none, h)).2 := by
  obtain ⟨⟨r, h'⟩, hv⟩ := Option.isSome_iff_exists.mp hc
  rw [hv]
  exact je_virt (y := 148) (as := [v0, v1]) D147_19 rfl (by decide) (by decide) rfl hcl hw hv
theorem D147_22 : decode (jt_code 147) 22 = .ok (.istore_n 2, 1) := by decide +kernel
theorem E147_22 {call : jv_F} {l0 l1 l2 l3 l4 l5 l6 l7 l8 l9 : Option Value} {x : Int32} {st : List Value} {h : jv_H} (hk : ¬ jv_is2 (some l1) = true) : jv_ev call 147 22 [l0, l1, l2, l3, l4, l5, l6, l7, l8, l9] (.int x :: st) h = jv_ev call 147 23 [l0, l1, some (.int x), l3, l4, l5, l6, l7, l8, l9] st h := je_istore_n D147_22 rfl (Nat.le_of_ble_eq_true rfl) (by show jv_st1 _ 2 _ = _; simp only [jv_st1, jv_kill, List.getElem?_cons_succ, List.getElem?_cons_zero, hk, if_false]; rfl)
theorem D147_23 : decode (jt_code 147) 23 = .ok (.iload_n 2, 1) := by decide +kernel
theorem E147_23 {call : jv_F} {l0 l1 l3 l4 l5 l6 l7 l8 l9 : Option Value} {x : Int32} {st : List Value} {h : jv_H} : jv_ev call 147 23 [l0, l1, some (.int x), l3, l4, l5, l6, l7, l8, l9] st h = jv_ev call 147 24 [l0, l1, some (.int x), l3, l4, l5, l6, l7, l8, l9] (.int x :: st) h := je_iload_n D147_23 rfl rfl
theorem D147_24 : decode (jt_code 147) 24 = .ok (.ifCond .eq 5, 3) := by decide +kernel
theorem E147_24 {call : jv_F} {l0 l1 l2 l3 l4 l5 l6 l7 l8 l9 : Option Value} {x : Int32} {st : List Value} {h : jv_H} : jv_ev call 147 24 [l0, l1, l2, l3, l4, l5, l6, l7, l8, l9] (.int x :: st) h = if x = 0 then jv_ev call 147 29 [l0, l1, l2, l3, l4, l5, l6, l7, l8, l9] st h else jv_ev call 147 27 [l0, l1, l2, l3, l4, l5, l6, l7, l8, l9] st h := je_ifc D147_24 (by decide) rfl rfl
theorem D147_27 : decode (jt_code 147) 27 = .ok (.iload_n 2, 1) := by decide +kernel
theorem E147_27 {call : jv_F} {l0 l1 l3 l4 l5 l6 l7 l8 l9 : Option Value} {x : Int32} {st : List Value} {h : jv_H} : jv_ev call 147 27 [l0, l1, some (.int x), l3, l4, l5, l6, l7, l8, l9] st h = jv_ev call 147 28 [l0, l1, some (.int x), l3, l4, l5, l6, l7, l8, l9] (.int x :: st) h := je_iload_n D147_27 rfl rfl
theorem D147_28 : decode (jt_code 147) 28 = .ok (.ireturn, 1) := by decide +kernel
theorem E147_28 {call : jv_F} {l0 l1 l2 l3 l4 l5 l6 l7 l8 l9 : Option Value} {v : Int32} {h : jv_H} : jv_ev call 147 28 [l0, l1, l2, l3, l4, l5, l6, l7, l8, l9] [.int v] h = some (some (.int v), h) := je_iret (ty := .int) D147_28 rfl rfl rfl
theorem D147_29 : decode (jt_code 147) 29 = .ok (.aload_n 1, 1) := by decide +kernel
theorem E147_29 {call : jv_F} {l0 l2 l3 l4 l5 l6 l7 l8 l9 : Option Value} {a : Nat} {st : List Value} {h : jv_H} : jv_ev call 147 29 [l0, some (.ref a), l2, l3, l4, l5, l6, l7, l8, l9] st h = jv_ev call 147 30 [l0, some (.ref a), l2, l3, l4, l5, l6, l7, l8, l9] (.ref a :: st) h := je_aload_n (r := some a) D147_29 rfl rfl
theorem E147_29r {call : jv_F} {l0 l2 l3 l4 l5 l6 l7 l8 l9 : Option Value} {r : Option Nat} {st : List Value} {h : jv_H} : jv_ev call 147 29 [l0, some (va_rf r), l2, l3, l4, l5, l6, l7, l8, l9] st h = jv_ev call 147 30 [l0, some (va_rf r), l2, l3, l4, l5, l6, l7, l8, l9] (va_rf r :: st) h := je_aload_n (r := r) D147_29 rfl rfl
theorem D147_30 : decode (jt_code 147) 30 = .ok (.aload_n 1, 1) := by decide +kernel
theorem E147_30 {call : jv_F} {l0 l2 l3 l4 l5 l6 l7 l8 l9 : Option Value} {a : Nat} {st : List Value} {h : jv_H} : jv_ev call 147 30 [l0, some (.ref a), l2, l3, l4, l5, l6, l7, l8, l9] st h = jv_ev call 147 31 [l0, some (.ref a), l2, l3, l4, l5, l6, l7, l8, l9] (.ref a :: st) h := je_aload_n (r := some a) D147_30 rfl rfl
theorem E147_30r {call : jv_F} {l0 l2 l3 l4 l5 l6 l7 l8 l9 : Option Value} {r : Option Nat} {st : List Value} {h : jv_H} : jv_ev call 147 30 [l0, some (va_rf r), l2, l3, l4, l5, l6, l7, l8, l9] st h = jv_ev call 147 31 [l0, some (va_rf r), l2, l3, l4, l5, l6, l7, l8, l9] (va_rf r :: st) h := je_aload_n (r := r) D147_30 rfl rfl
theorem D147_31 : decode (jt_code 147) 31 = .ok (.getfield 128, 3) := by decide +kernel
theorem E147_31 {call : jv_F} {l0 l1 l2 l3 l4 l5 l6 l7 l8 l9 : Option Value} {a : Nat} {st : List Value} {h : jv_H} (hs : (jv_gf h a 4 4).isSome = true) : jv_ev call 147 31 [l0, l1, l2, l3, l4, l5, l6, l7, l8, l9] (.ref a :: st) h = jv_ev call 147 34 [l0, l1, l2, l3, l4, l5, l6, l7, l8, l9] ((jv_gf h a 4 4).getD .null :: st) h := by
  obtain ⟨v, hv⟩ := Option.isSome_iff_exists.mp hs
  rw [hv]
  exact je_get D147_31 rfl (by decide) hv
theorem D147_34 : decode (jt_code 147) 34 = .ok (.invokevirtual 277, 3) := by decide +kernel
theorem E147_34 {call : jv_F} {l0 l1 l2 l3 l4 l5 l6 l7 l8 l9 : Option Value} {b : Nat} {v0 : Value}  {st : List Value} {h : jv_H} (hw : jv_wide st = true) (hcl : jv_cl h b = some 4) (hc : (call 95 [.ref b, v0] h).isSome = true) : jv_ev call 147 34 [l0, l1, l2, l3, l4, l5, l6, l7, l8, l9] (v0 :: .ref b :: st) h = jv_ev call 147 37 [l0, l1, l2, l3, l4, l5, l6, l7, l8, l9] ((((call 95 [.ref b, v0] h).getD (none, h)).1).toList ++ st) ((call 95 [.ref b, v0] h).getD (none, h)).2 := by
  obtain ⟨⟨r, h'⟩, hv⟩ := Option.isSome_iff_exists.mp hc
  rw [hv]
  exact je_virt (y := 95) (as := [v0]) D147_34 rfl (by decide) (by decide) rfl hcl hw hv
theorem D147_37 : decode (jt_code 147) 37 = .ok (.astore_n 3, 1) := by decide +kernel
theorem E147_37 {call : jv_F} {l0 l1 l2 l3 l4 l5 l6 l7 l8 l9 : Option Value} {a : Nat} {st : List Value} {h : jv_H} (hk : ¬ jv_is2 (some l2) = true) : jv_ev call 147 37 [l0, l1, l2, l3, l4, l5, l6, l7, l8, l9] (.ref a :: st) h = jv_ev call 147 38 [l0, l1, l2, some (.ref a), l4, l5, l6, l7, l8, l9] st h := je_astore_n (r := some a) D147_37 rfl (Nat.le_of_ble_eq_true rfl) (by show jv_st1 _ 3 _ = _; simp only [jv_st1, jv_kill, List.getElem?_cons_succ, List.getElem?_cons_zero, hk, if_false]; rfl)
theorem E147_37r {call : jv_F} {l0 l1 l2 l3 l4 l5 l6 l7 l8 l9 : Option Value} {r : Option Nat} {st : List Value} {h : jv_H} (hk : ¬ jv_is2 (some l2) = true) : jv_ev call 147 37 [l0, l1, l2, l3, l4, l5, l6, l7, l8, l9] (va_rf r :: st) h = jv_ev call 147 38 [l0, l1, l2, some (va_rf r), l4, l5, l6, l7, l8, l9] st h := je_astore_n (r := r) D147_37 rfl (Nat.le_of_ble_eq_true rfl) (by show jv_st1 _ 3 _ = _; simp only [jv_st1, jv_kill, List.getElem?_cons_succ, List.getElem?_cons_zero, hk, if_false]; rfl)
theorem D147_38 : decode (jt_code 147) 38 = .ok (.aload_n 1, 1) := by decide +kernel
theorem E147_38 {call : jv_F} {l0 l2 l3 l4 l5 l6 l7 l8 l9 : Option Value} {a : Nat} {st : List Value} {h : jv_H} : jv_ev call 147 38 [l0, some (.ref a), l2, l3, l4, l5, l6, l7, l8, l9] st h = jv_ev call 147 39 [l0, some (.ref a), l2, l3, l4, l5, l6, l7, l8, l9] (.ref a :: st) h := je_aload_n (r := some a) D147_38 rfl rfl
theorem E147_38r {call : jv_F} {l0 l2 l3 l4 l5 l6 l7 l8 l9 : Option Value} {r : Option Nat} {st : List Value} {h : jv_H} : jv_ev call 147 38 [l0, some (va_rf r), l2, l3, l4, l5, l6, l7, l8, l9] st h = jv_ev call 147 39 [l0, some (va_rf r), l2, l3, l4, l5, l6, l7, l8, l9] (va_rf r :: st) h := je_aload_n (r := r) D147_38 rfl rfl
theorem D147_39 : decode (jt_code 147) 39 = .ok (.aload_n 1, 1) := by decide +kernel
theorem E147_39 {call : jv_F} {l0 l2 l3 l4 l5 l6 l7 l8 l9 : Option Value} {a : Nat} {st : List Value} {h : jv_H} : jv_ev call 147 39 [l0, some (.ref a), l2, l3, l4, l5, l6, l7, l8, l9] st h = jv_ev call 147 40 [l0, some (.ref a), l2, l3, l4, l5, l6, l7, l8, l9] (.ref a :: st) h := je_aload_n (r := some a) D147_39 rfl rfl
theorem E147_39r {call : jv_F} {l0 l2 l3 l4 l5 l6 l7 l8 l9 : Option Value} {r : Option Nat} {st : List Value} {h : jv_H} : jv_ev call 147 39 [l0, some (va_rf r), l2, l3, l4, l5, l6, l7, l8, l9] st h = jv_ev call 147 40 [l0, some (va_rf r), l2, l3, l4, l5, l6, l7, l8, l9] (va_rf r :: st) h := je_aload_n (r := r) D147_39 rfl rfl
theorem D147_40 : decode (jt_code 147) 40 = .ok (.getfield 128, 3) := by decide +kernel
theorem E147_40 {call : jv_F} {l0 l1 l2 l3 l4 l5 l6 l7 l8 l9 : Option Value} {a : Nat} {st : List Value} {h : jv_H} (hs : (jv_gf h a 4 4).isSome = true) : jv_ev call 147 40 [l0, l1, l2, l3, l4, l5, l6, l7, l8, l9] (.ref a :: st) h = jv_ev call 147 43 [l0, l1, l2, l3, l4, l5, l6, l7, l8, l9] ((jv_gf h a 4 4).getD .null :: st) h := by
  obtain ⟨v, hv⟩ := Option.isSome_iff_exists.mp hs
  rw [hv]
  exact je_get D147_40 rfl (by decide) hv
theorem D147_43 : decode (jt_code 147) 43 = .ok (.invokevirtual 134, 3) := by decide +kernel
theorem E147_43 {call : jv_F} {l0 l1 l2 l3 l4 l5 l6 l7 l8 l9 : Option Value} {b : Nat} {v0 : Value}  {st : List Value} {h : jv_H} (hw : jv_wide st = true) (hcl : jv_cl h b = some 4) (hc : (call 97 [.ref b, v0] h).isSome = true) : jv_ev call 147 43 [l0, l1, l2, l3, l4, l5, l6, l7, l8, l9] (v0 :: .ref b :: st) h = jv_ev call 147 46 [l0, l1, l2, l3, l4, l5, l6, l7, l8, l9] ((((call 97 [.ref b, v0] h).getD (none, h)).1).toList ++ st) ((call 97 [.ref b, v0] h).getD (none, h)).2 := by
  obtain ⟨⟨r, h'⟩, hv⟩ := Option.isSome_iff_exists.mp hc
  rw [hv]
  exact je_virt (y := 97) (as := [v0]) D147_43 rfl (by decide) (by decide) rfl hcl hw hv
theorem D147_46 : decode (jt_code 147) 46 = .ok (.lstore 4, 2) := by decide +kernel
theorem E147_46 {call : jv_F} {l0 l1 l2 l3 l4 l5 l6 l7 l8 l9 : Option Value} {x : Int64} {st : List Value} {h : jv_H} (hk : ¬ jv_is2 (some l3) = true) : jv_ev call 147 46 [l0, l1, l2, l3, l4, l5, l6, l7, l8, l9] (.long x :: st) h = jv_ev call 147 48 [l0, l1, l2, l3, some (.long x), none, l6, l7, l8, l9] st h := je_lstore D147_46 rfl (Nat.le_of_ble_eq_true rfl) (by show jv_st2 _ 4 _ = _; simp only [jv_st2, jv_kill, List.getElem?_cons_succ, List.getElem?_cons_zero, hk, if_false]; rfl)
theorem D147_48 : decode (jt_code 147) 48 = .ok (.lload 4, 2) := by decide +kernel
theorem E147_48 {call : jv_F} {l0 l1 l2 l3 l5 l6 l7 l8 l9 : Option Value} {x : Int64} {st : List Value} {h : jv_H} : jv_ev call 147 48 [l0, l1, l2, l3, some (.long x), l5, l6, l7, l8, l9] st h = jv_ev call 147 50 [l0, l1, l2, l3, some (.long x), l5, l6, l7, l8, l9] (.long x :: st) h := je_lload D147_48 rfl rfl
theorem D147_50 : decode (jt_code 147) 50 = .ok (.invokestatic 280, 3) := by decide +kernel
theorem E147_50 {call : jv_F} {l0 l1 l2 l3 l4 l5 l6 l7 l8 l9 : Option Value} {v0 : Value}  {st : List Value} {h : jv_H} (hw : jv_wide st = true) (hc : (call 158 [v0] h).isSome = true) : jv_ev call 147 50 [l0, l1, l2, l3, l4, l5, l6, l7, l8, l9] (v0 :: st) h = jv_ev call 147 53 [l0, l1, l2, l3, l4, l5, l6, l7, l8, l9] ((((call 158 [v0] h).getD (none, h)).1).toList ++ st) ((call 158 [v0] h).getD (none, h)).2 := by
  obtain ⟨⟨r, h'⟩, hv⟩ := Option.isSome_iff_exists.mp hc
  rw [hv]
  exact je_stat (y := 158) (as := [v0]) D147_50 rfl (by decide) (by decide) rfl hw hv
theorem D147_53 : decode (jt_code 147) 53 = .ok (.istore 6, 2) := by decide +kernel
theorem E147_53 {call : jv_F} {l0 l1 l2 l3 l4 l5 l6 l7 l8 l9 : Option Value} {x : Int32} {st : List Value} {h : jv_H} (hk : ¬ jv_is2 (some l5) = true) : jv_ev call 147 53 [l0, l1, l2, l3, l4, l5, l6, l7, l8, l9] (.int x :: st) h = jv_ev call 147 55 [l0, l1, l2, l3, l4, l5, some (.int x), l7, l8, l9] st h := je_istore D147_53 rfl (Nat.le_of_ble_eq_true rfl) (by show jv_st1 _ 6 _ = _; simp only [jv_st1, jv_kill, List.getElem?_cons_succ, List.getElem?_cons_zero, hk, if_false]; rfl)
theorem D147_55 : decode (jt_code 147) 55 = .ok (.iload 6, 2) := by decide +kernel
theorem E147_55 {call : jv_F} {l0 l1 l2 l3 l4 l5 l7 l8 l9 : Option Value} {x : Int32} {st : List Value} {h : jv_H} : jv_ev call 147 55 [l0, l1, l2, l3, l4, l5, some (.int x), l7, l8, l9] st h = jv_ev call 147 57 [l0, l1, l2, l3, l4, l5, some (.int x), l7, l8, l9] (.int x :: st) h := je_iload D147_55 rfl rfl
theorem D147_57 : decode (jt_code 147) 57 = .ok (.invokestatic 286, 3) := by decide +kernel
theorem E147_57 {call : jv_F} {l0 l1 l2 l3 l4 l5 l6 l7 l8 l9 : Option Value} {v0 : Value}  {st : List Value} {h : jv_H} (hw : jv_wide st = true) (hc : (call 161 [v0] h).isSome = true) : jv_ev call 147 57 [l0, l1, l2, l3, l4, l5, l6, l7, l8, l9] (v0 :: st) h = jv_ev call 147 60 [l0, l1, l2, l3, l4, l5, l6, l7, l8, l9] ((((call 161 [v0] h).getD (none, h)).1).toList ++ st) ((call 161 [v0] h).getD (none, h)).2 := by
  obtain ⟨⟨r, h'⟩, hv⟩ := Option.isSome_iff_exists.mp hc
  rw [hv]
  exact je_stat (y := 161) (as := [v0]) D147_57 rfl (by decide) (by decide) rfl hw hv
theorem D147_60 : decode (jt_code 147) 60 = .ok (.ifCond .ne 5, 3) := by decide +kernel
theorem E147_60 {call : jv_F} {l0 l1 l2 l3 l4 l5 l6 l7 l8 l9 : Option Value} {x : Int32} {st : List Value} {h : jv_H} : jv_ev call 147 60 [l0, l1, l2, l3, l4, l5, l6, l7, l8, l9] (.int x :: st) h = if ¬ x = 0 then jv_ev call 147 65 [l0, l1, l2, l3, l4, l5, l6, l7, l8, l9] st h else jv_ev call 147 63 [l0, l1, l2, l3, l4, l5, l6, l7, l8, l9] st h := je_ifc D147_60 (by decide) rfl rfl
theorem D147_63 : decode (jt_code 147) 63 = .ok (.iconst 3, 1) := by decide +kernel
theorem E147_63 {call : jv_F} {l0 l1 l2 l3 l4 l5 l6 l7 l8 l9 : Option Value}  {st : List Value} {h : jv_H} : jv_ev call 147 63 [l0, l1, l2, l3, l4, l5, l6, l7, l8, l9] st h = jv_ev call 147 64 [l0, l1, l2, l3, l4, l5, l6, l7, l8, l9] (.int (nI 3) :: st) h := je_iconst D147_63 rfl (by decide)
theorem D147_64 : decode (jt_code 147) 64 = .ok (.ireturn, 1) := by decide +kernel
theorem E147_64 {call : jv_F} {l0 l1 l2 l3 l4 l5 l6 l7 l8 l9 : Option Value} {v : Int32} {h : jv_H} : jv_ev call 147 64 [l0, l1, l2, l3, l4, l5, l6, l7, l8, l9] [.int v] h = some (some (.int v), h) := je_iret (ty := .int) D147_64 rfl rfl rfl
theorem D147_65 : decode (jt_code 147) 65 = .ok (.aload_n 1, 1) := by decide +kernel
theorem E147_65 {call : jv_F} {l0 l2 l3 l4 l5 l6 l7 l8 l9 : Option Value} {a : Nat} {st : List Value} {h : jv_H} : jv_ev call 147 65 [l0, some (.ref a), l2, l3, l4, l5, l6, l7, l8, l9] st h = jv_ev call 147 66 [l0, some (.ref a), l2, l3, l4, l5, l6, l7, l8, l9] (.ref a :: st) h := je_aload_n (r := some a) D147_65 rfl rfl
theorem E147_65r {call : jv_F} {l0 l2 l3 l4 l5 l6 l7 l8 l9 : Option Value} {r : Option Nat} {st : List Value} {h : jv_H} : jv_ev call 147 65 [l0, some (va_rf r), l2, l3, l4, l5, l6, l7, l8, l9] st h = jv_ev call 147 66 [l0, some (va_rf r), l2, l3, l4, l5, l6, l7, l8, l9] (va_rf r :: st) h := je_aload_n (r := r) D147_65 rfl rfl
theorem D147_66 : decode (jt_code 147) 66 = .ok (.lload 4, 2) := by decide +kernel
theorem E147_66 {call : jv_F} {l0 l1 l2 l3 l5 l6 l7 l8 l9 : Option Value} {x : Int64} {st : List Value} {h : jv_H} : jv_ev call 147 66 [l0, l1, l2, l3, some (.long x), l5, l6, l7, l8, l9] st h = jv_ev call 147 68 [l0, l1, l2, l3, some (.long x), l5, l6, l7, l8, l9] (.long x :: st) h := je_lload D147_66 rfl rfl
theorem D147_68 : decode (jt_code 147) 68 = .ok (.invokevirtual 289, 3) := by decide +kernel
theorem E147_68 {call : jv_F} {l0 l1 l2 l3 l4 l5 l6 l7 l8 l9 : Option Value} {b : Nat} {v0 : Value}  {st : List Value} {h : jv_H} (hw : jv_wide st = true) (hcl : jv_cl h b = some 4) (hc : (call 102 [.ref b, v0] h).isSome = true) : jv_ev call 147 68 [l0, l1, l2, l3, l4, l5, l6, l7, l8, l9] (v0 :: .ref b :: st) h = jv_ev call 147 71 [l0, l1, l2, l3, l4, l5, l6, l7, l8, l9] ((((call 102 [.ref b, v0] h).getD (none, h)).1).toList ++ st) ((call 102 [.ref b, v0] h).getD (none, h)).2 := by
  obtain ⟨⟨r, h'⟩, hv⟩ := Option.isSome_iff_exists.mp hc
  rw [hv]
  exact je_virt (y := 102) (as := [v0]) D147_68 rfl (by decide) (by decide) rfl hcl hw hv
theorem D147_71 : decode (jt_code 147) 71 = .ok (.istore 7, 2) := by decide +kernel
theorem E147_71 {call : jv_F} {l0 l1 l2 l3 l4 l5 l6 l7 l8 l9 : Option Value} {x : Int32} {st : List Value} {h : jv_H} (hk : ¬ jv_is2 (some l6) = true) : jv_ev call 147 71 [l0, l1, l2, l3, l4, l5, l6, l7, l8, l9] (.int x :: st) h = jv_ev call 147 73 [l0, l1, l2, l3, l4, l5, l6, some (.int x), l8, l9] st h := je_istore D147_71 rfl (Nat.le_of_ble_eq_true rfl) (by show jv_st1 _ 7 _ = _; simp only [jv_st1, jv_kill, List.getElem?_cons_succ, List.getElem?_cons_zero, hk, if_false]; rfl)
theorem D147_73 : decode (jt_code 147) 73 = .ok (.aconst_null, 1) := by decide +kernel
theorem E147_73 {call : jv_F} {l0 l1 l2 l3 l4 l5 l6 l7 l8 l9 : Option Value}  {st : List Value} {h : jv_H} : jv_ev call 147 73 [l0, l1, l2, l3, l4, l5, l6, l7, l8, l9] st h = jv_ev call 147 74 [l0, l1, l2, l3, l4, l5, l6, l7, l8, l9] (.null :: st) h := je_null D147_73 rfl
theorem D147_74 : decode (jt_code 147) 74 = .ok (.astore 8, 2) := by decide +kernel
theorem E147_74 {call : jv_F} {l0 l1 l2 l3 l4 l5 l6 l7 l8 l9 : Option Value} {a : Nat} {st : List Value} {h : jv_H} (hk : ¬ jv_is2 (some l7) = true) : jv_ev call 147 74 [l0, l1, l2, l3, l4, l5, l6, l7, l8, l9] (.ref a :: st) h = jv_ev call 147 76 [l0, l1, l2, l3, l4, l5, l6, l7, some (.ref a), l9] st h := je_astore (r := some a) D147_74 rfl (Nat.le_of_ble_eq_true rfl) (by show jv_st1 _ 8 _ = _; simp only [jv_st1, jv_kill, List.getElem?_cons_succ, List.getElem?_cons_zero, hk, if_false]; rfl)
theorem E147_74r {call : jv_F} {l0 l1 l2 l3 l4 l5 l6 l7 l8 l9 : Option Value} {r : Option Nat} {st : List Value} {h : jv_H} (hk : ¬ jv_is2 (some l7) = true) : jv_ev call 147 74 [l0, l1, l2, l3, l4, l5, l6, l7, l8, l9] (va_rf r :: st) h = jv_ev call 147 76 [l0, l1, l2, l3, l4, l5, l6, l7, some (va_rf r), l9] st h := je_astore (r := r) D147_74 rfl (Nat.le_of_ble_eq_true rfl) (by show jv_st1 _ 8 _ = _; simp only [jv_st1, jv_kill, List.getElem?_cons_succ, List.getElem?_cons_zero, hk, if_false]; rfl)
theorem D147_76 : decode (jt_code 147) 76 = .ok (.iload 6, 2) := by decide +kernel
theorem E147_76 {call : jv_F} {l0 l1 l2 l3 l4 l5 l7 l8 l9 : Option Value} {x : Int32} {st : List Value} {h : jv_H} : jv_ev call 147 76 [l0, l1, l2, l3, l4, l5, some (.int x), l7, l8, l9] st h = jv_ev call 147 78 [l0, l1, l2, l3, l4, l5, some (.int x), l7, l8, l9] (.int x :: st) h := je_iload D147_76 rfl rfl
theorem D147_78 : decode (jt_code 147) 78 = .ok (.invokestatic 292, 3) := by decide +kernel
theorem E147_78 {call : jv_F} {l0 l1 l2 l3 l4 l5 l6 l7 l8 l9 : Option Value} {v0 : Value}  {st : List Value} {h : jv_H} (hw : jv_wide st = true) (hc : (call 162 [v0] h).isSome = true) : jv_ev call 147 78 [l0, l1, l2, l3, l4, l5, l6, l7, l8, l9] (v0 :: st) h = jv_ev call 147 81 [l0, l1, l2, l3, l4, l5, l6, l7, l8, l9] ((((call 162 [v0] h).getD (none, h)).1).toList ++ st) ((call 162 [v0] h).getD (none, h)).2 := by
  obtain ⟨⟨r, h'⟩, hv⟩ := Option.isSome_iff_exists.mp hc
  rw [hv]
  exact je_stat (y := 162) (as := [v0]) D147_78 rfl (by decide) (by decide) rfl hw hv
theorem D147_81 : decode (jt_code 147) 81 = .ok (.ifCond .eq 25, 3) := by decide +kernel
theorem E147_81 {call : jv_F} {l0 l1 l2 l3 l4 l5 l6 l7 l8 l9 : Option Value} {x : Int32} {st : List Value} {h : jv_H} : jv_ev call 147 81 [l0, l1, l2, l3, l4, l5, l6, l7, l8, l9] (.int x :: st) h = if x = 0 then jv_ev call 147 106 [l0, l1, l2, l3, l4, l5, l6, l7, l8, l9] st h else jv_ev call 147 84 [l0, l1, l2, l3, l4, l5, l6, l7, l8, l9] st h := je_ifc D147_81 (by decide) rfl rfl
theorem D147_84 : decode (jt_code 147) 84 = .ok (.aload_n 0, 1) := by decide +kernel
theorem E147_84 {call : jv_F} {l1 l2 l3 l4 l5 l6 l7 l8 l9 : Option Value} {a : Nat} {st : List Value} {h : jv_H} : jv_ev call 147 84 [some (.ref a), l1, l2, l3, l4, l5, l6, l7, l8, l9] st h = jv_ev call 147 85 [some (.ref a), l1, l2, l3, l4, l5, l6, l7, l8, l9] (.ref a :: st) h := je_aload_n (r := some a) D147_84 rfl rfl
theorem D147_85 : decode (jt_code 147) 85 = .ok (.aload_n 1, 1) := by decide +kernel
theorem E147_85 {call : jv_F} {l0 l2 l3 l4 l5 l6 l7 l8 l9 : Option Value} {a : Nat} {st : List Value} {h : jv_H} : jv_ev call 147 85 [l0, some (.ref a), l2, l3, l4, l5, l6, l7, l8, l9] st h = jv_ev call 147 86 [l0, some (.ref a), l2, l3, l4, l5, l6, l7, l8, l9] (.ref a :: st) h := je_aload_n (r := some a) D147_85 rfl rfl
theorem E147_85r {call : jv_F} {l0 l2 l3 l4 l5 l6 l7 l8 l9 : Option Value} {r : Option Nat} {st : List Value} {h : jv_H} : jv_ev call 147 85 [l0, some (va_rf r), l2, l3, l4, l5, l6, l7, l8, l9] st h = jv_ev call 147 86 [l0, some (va_rf r), l2, l3, l4, l5, l6, l7, l8, l9] (va_rf r :: st) h := je_aload_n (r := r) D147_85 rfl rfl
theorem D147_86 : decode (jt_code 147) 86 = .ok (.iload 7, 2) := by decide +kernel
theorem E147_86 {call : jv_F} {l0 l1 l2 l3 l4 l5 l6 l8 l9 : Option Value} {x : Int32} {st : List Value} {h : jv_H} : jv_ev call 147 86 [l0, l1, l2, l3, l4, l5, l6, some (.int x), l8, l9] st h = jv_ev call 147 88 [l0, l1, l2, l3, l4, l5, l6, some (.int x), l8, l9] (.int x :: st) h := je_iload D147_86 rfl rfl
theorem D147_88 : decode (jt_code 147) 88 = .ok (.invokevirtual 273, 3) := by decide +kernel
theorem E147_88 {call : jv_F} {l0 l1 l2 l3 l4 l5 l6 l7 l8 l9 : Option Value} {b : Nat} {v0 v1 : Value}  {st : List Value} {h : jv_H} (hw : jv_wide st = true) (hcl : jv_cl h b = some 6) (hc : (call 148 [.ref b, v0, v1] h).isSome = true) : jv_ev call 147 88 [l0, l1, l2, l3, l4, l5, l6, l7, l8, l9] (v1 :: v0 :: .ref b :: st) h = jv_ev call 147 91 [l0, l1, l2, l3, l4, l5, l6, l7, l8, l9] ((((call 148 [.ref b, v0, v1] h).getD (none, h)).1).toList ++ st) ((call 148 [.ref b, v0, v1] h).getD (none, h)).2 := by
  obtain ⟨⟨r, h'⟩, hv⟩ := Option.isSome_iff_exists.mp hc
  rw [hv]
  exact je_virt (y := 148) (as := [v0, v1]) D147_88 rfl (by decide) (by decide) rfl hcl hw hv
theorem D147_91 : decode (jt_code 147) 91 = .ok (.istore_n 2, 1) := by decide +kernel
theorem E147_91 {call : jv_F} {l0 l1 l2 l3 l4 l5 l6 l7 l8 l9 : Option Value} {x : Int32} {st : List Value} {h : jv_H} (hk : ¬ jv_is2 (some l1) = true) : jv_ev call 147 91 [l0, l1, l2, l3, l4, l5, l6, l7, l8, l9] (.int x :: st) h = jv_ev call 147 92 [l0, l1, some (.int x), l3, l4, l5, l6, l7, l8, l9] st h := je_istore_n D147_91 rfl (Nat.le_of_ble_eq_true rfl) (by show jv_st1 _ 2 _ = _; simp only [jv_st1, jv_kill, List.getElem?_cons_succ, List.getElem?_cons_zero, hk, if_false]; rfl)
theorem D147_92 : decode (jt_code 147) 92 = .ok (.iload_n 2, 1) := by decide +kernel
theorem E147_92 {call : jv_F} {l0 l1 l3 l4 l5 l6 l7 l8 l9 : Option Value} {x : Int32} {st : List Value} {h : jv_H} : jv_ev call 147 92 [l0, l1, some (.int x), l3, l4, l5, l6, l7, l8, l9] st h = jv_ev call 147 93 [l0, l1, some (.int x), l3, l4, l5, l6, l7, l8, l9] (.int x :: st) h := je_iload_n D147_92 rfl rfl
theorem D147_93 : decode (jt_code 147) 93 = .ok (.ifCond .eq 5, 3) := by decide +kernel
theorem E147_93 {call : jv_F} {l0 l1 l2 l3 l4 l5 l6 l7 l8 l9 : Option Value} {x : Int32} {st : List Value} {h : jv_H} : jv_ev call 147 93 [l0, l1, l2, l3, l4, l5, l6, l7, l8, l9] (.int x :: st) h = if x = 0 then jv_ev call 147 98 [l0, l1, l2, l3, l4, l5, l6, l7, l8, l9] st h else jv_ev call 147 96 [l0, l1, l2, l3, l4, l5, l6, l7, l8, l9] st h := je_ifc D147_93 (by decide) rfl rfl
theorem D147_96 : decode (jt_code 147) 96 = .ok (.iload_n 2, 1) := by decide +kernel
theorem E147_96 {call : jv_F} {l0 l1 l3 l4 l5 l6 l7 l8 l9 : Option Value} {x : Int32} {st : List Value} {h : jv_H} : jv_ev call 147 96 [l0, l1, some (.int x), l3, l4, l5, l6, l7, l8, l9] st h = jv_ev call 147 97 [l0, l1, some (.int x), l3, l4, l5, l6, l7, l8, l9] (.int x :: st) h := je_iload_n D147_96 rfl rfl
theorem D147_97 : decode (jt_code 147) 97 = .ok (.ireturn, 1) := by decide +kernel
theorem E147_97 {call : jv_F} {l0 l1 l2 l3 l4 l5 l6 l7 l8 l9 : Option Value} {v : Int32} {h : jv_H} : jv_ev call 147 97 [l0, l1, l2, l3, l4, l5, l6, l7, l8, l9] [.int v] h = some (some (.int v), h) := je_iret (ty := .int) D147_97 rfl rfl rfl
theorem D147_98 : decode (jt_code 147) 98 = .ok (.aload_n 1, 1) := by decide +kernel
theorem E147_98 {call : jv_F} {l0 l2 l3 l4 l5 l6 l7 l8 l9 : Option Value} {a : Nat} {st : List Value} {h : jv_H} : jv_ev call 147 98 [l0, some (.ref a), l2, l3, l4, l5, l6, l7, l8, l9] st h = jv_ev call 147 99 [l0, some (.ref a), l2, l3, l4, l5, l6, l7, l8, l9] (.ref a :: st) h := je_aload_n (r := some a) D147_98 rfl rfl
theorem E147_98r {call : jv_F} {l0 l2 l3 l4 l5 l6 l7 l8 l9 : Option Value} {r : Option Nat} {st : List Value} {h : jv_H} : jv_ev call 147 98 [l0, some (va_rf r), l2, l3, l4, l5, l6, l7, l8, l9] st h = jv_ev call 147 99 [l0, some (va_rf r), l2, l3, l4, l5, l6, l7, l8, l9] (va_rf r :: st) h := je_aload_n (r := r) D147_98 rfl rfl
theorem D147_99 : decode (jt_code 147) 99 = .ok (.iload 7, 2) := by decide +kernel
theorem E147_99 {call : jv_F} {l0 l1 l2 l3 l4 l5 l6 l8 l9 : Option Value} {x : Int32} {st : List Value} {h : jv_H} : jv_ev call 147 99 [l0, l1, l2, l3, l4, l5, l6, some (.int x), l8, l9] st h = jv_ev call 147 101 [l0, l1, l2, l3, l4, l5, l6, some (.int x), l8, l9] (.int x :: st) h := je_iload D147_99 rfl rfl
theorem D147_101 : decode (jt_code 147) 101 = .ok (.invokevirtual 277, 3) := by decide +kernel
theorem E147_101 {call : jv_F} {l0 l1 l2 l3 l4 l5 l6 l7 l8 l9 : Option Value} {b : Nat} {v0 : Value}  {st : List Value} {h : jv_H} (hw : jv_wide st = true) (hcl : jv_cl h b = some 4) (hc : (call 95 [.ref b, v0] h).isSome = true) : jv_ev call 147 101 [l0, l1, l2, l3, l4, l5, l6, l7, l8, l9] (v0 :: .ref b :: st) h = jv_ev call 147 104 [l0, l1, l2, l3, l4, l5, l6, l7, l8, l9] ((((call 95 [.ref b, v0] h).getD (none, h)).1).toList ++ st) ((call 95 [.ref b, v0] h).getD (none, h)).2 := by
  obtain ⟨⟨r, h'⟩, hv⟩ := Option.isSome_iff_exists.mp hc
  rw [hv]
  exact je_virt (y := 95) (as := [v0]) D147_101 rfl (by decide) (by decide) rfl hcl hw hv
theorem D147_104 : decode (jt_code 147) 104 = .ok (.astore 8, 2) := by decide +kernel
theorem E147_104 {call : jv_F} {l0 l1 l2 l3 l4 l5 l6 l7 l8 l9 : Option Value} {a : Nat} {st : List Value} {h : jv_H} (hk : ¬ jv_is2 (some l7) = true) : jv_ev call 147 104 [l0, l1, l2, l3, l4, l5, l6, l7, l8, l9] (.ref a :: st) h = jv_ev call 147 106 [l0, l1, l2, l3, l4, l5, l6, l7, some (.ref a), l9] st h := je_astore (r := some a) D147_104 rfl (Nat.le_of_ble_eq_true rfl) (by show jv_st1 _ 8 _ = _; simp only [jv_st1, jv_kill, List.getElem?_cons_succ, List.getElem?_cons_zero, hk, if_false]; rfl)
theorem E147_104r {call : jv_F} {l0 l1 l2 l3 l4 l5 l6 l7 l8 l9 : Option Value} {r : Option Nat} {st : List Value} {h : jv_H} (hk : ¬ jv_is2 (some l7) = true) : jv_ev call 147 104 [l0, l1, l2, l3, l4, l5, l6, l7, l8, l9] (va_rf r :: st) h = jv_ev call 147 106 [l0, l1, l2, l3, l4, l5, l6, l7, some (va_rf r), l9] st h := je_astore (r := r) D147_104 rfl (Nat.le_of_ble_eq_true rfl) (by show jv_st1 _ 8 _ = _; simp only [jv_st1, jv_kill, List.getElem?_cons_succ, List.getElem?_cons_zero, hk, if_false]; rfl)
theorem D147_106 : decode (jt_code 147) 106 = .ok (.aload_n 1, 1) := by decide +kernel
theorem E147_106 {call : jv_F} {l0 l2 l3 l4 l5 l6 l7 l8 l9 : Option Value} {a : Nat} {st : List Value} {h : jv_H} : jv_ev call 147 106 [l0, some (.ref a), l2, l3, l4, l5, l6, l7, l8, l9] st h = jv_ev call 147 107 [l0, some (.ref a), l2, l3, l4, l5, l6, l7, l8, l9] (.ref a :: st) h := je_aload_n (r := some a) D147_106 rfl rfl
theorem E147_106r {call : jv_F} {l0 l2 l3 l4 l5 l6 l7 l8 l9 : Option Value} {r : Option Nat} {st : List Value} {h : jv_H} : jv_ev call 147 106 [l0, some (va_rf r), l2, l3, l4, l5, l6, l7, l8, l9] st h = jv_ev call 147 107 [l0, some (va_rf r), l2, l3, l4, l5, l6, l7, l8, l9] (va_rf r :: st) h := je_aload_n (r := r) D147_106 rfl rfl
theorem D147_107 : decode (jt_code 147) 107 = .ok (.iload 6, 2) := by decide +kernel
theorem E147_107 {call : jv_F} {l0 l1 l2 l3 l4 l5 l7 l8 l9 : Option Value} {x : Int32} {st : List Value} {h : jv_H} : jv_ev call 147 107 [l0, l1, l2, l3, l4, l5, some (.int x), l7, l8, l9] st h = jv_ev call 147 109 [l0, l1, l2, l3, l4, l5, some (.int x), l7, l8, l9] (.int x :: st) h := je_iload D147_107 rfl rfl
theorem D147_109 : decode (jt_code 147) 109 = .ok (.lload 4, 2) := by decide +kernel
theorem E147_109 {call : jv_F} {l0 l1 l2 l3 l5 l6 l7 l8 l9 : Option Value} {x : Int64} {st : List Value} {h : jv_H} : jv_ev call 147 109 [l0, l1, l2, l3, some (.long x), l5, l6, l7, l8, l9] st h = jv_ev call 147 111 [l0, l1, l2, l3, some (.long x), l5, l6, l7, l8, l9] (.long x :: st) h := je_lload D147_109 rfl rfl
theorem D147_111 : decode (jt_code 147) 111 = .ok (.invokestatic 295, 3) := by decide +kernel
theorem E147_111 {call : jv_F} {l0 l1 l2 l3 l4 l5 l6 l7 l8 l9 : Option Value} {v0 : Value}  {st : List Value} {h : jv_H} (hw : jv_wide st = true) (hc : (call 159 [v0] h).isSome = true) : jv_ev call 147 111 [l0, l1, l2, l3, l4, l5, l6, l7, l8, l9] (v0 :: st) h = jv_ev call 147 114 [l0, l1, l2, l3, l4, l5, l6, l7, l8, l9] ((((call 159 [v0] h).getD (none, h)).1).toList ++ st) ((call 159 [v0] h).getD (none, h)).2 := by
  obtain ⟨⟨r, h'⟩, hv⟩ := Option.isSome_iff_exists.mp hc
  rw [hv]
  exact je_stat (y := 159) (as := [v0]) D147_111 rfl (by decide) (by decide) rfl hw hv
theorem D147_114 : decode (jt_code 147) 114 = .ok (.iload 7, 2) := by decide +kernel
theorem E147_114 {call : jv_F} {l0 l1 l2 l3 l4 l5 l6 l8 l9 : Option Value} {x : Int32} {st : List Value} {h : jv_H} : jv_ev call 147 114 [l0, l1, l2, l3, l4, l5, l6, some (.int x), l8, l9] st h = jv_ev call 147 116 [l0, l1, l2, l3, l4, l5, l6, some (.int x), l8, l9] (.int x :: st) h := je_iload D147_114 rfl rfl
theorem D147_116 : decode (jt_code 147) 116 = .ok (.invokevirtual 298, 3) := by decide +kernel
theorem E147_116 {call : jv_F} {l0 l1 l2 l3 l4 l5 l6 l7 l8 l9 : Option Value} {b : Nat} {v0 v1 v2 : Value}  {st : List Value} {h : jv_H} (hw : jv_wide st = true) (hcl : jv_cl h b = some 4) (hc : (call 103 [.ref b, v0, v1, v2] h).isSome = true) : jv_ev call 147 116 [l0, l1, l2, l3, l4, l5, l6, l7, l8, l9] (v2 :: v1 :: v0 :: .ref b :: st) h = jv_ev call 147 119 [l0, l1, l2, l3, l4, l5, l6, l7, l8, l9] ((((call 103 [.ref b, v0, v1, v2] h).getD (none, h)).1).toList ++ st) ((call 103 [.ref b, v0, v1, v2] h).getD (none, h)).2 := by
  obtain ⟨⟨r, h'⟩, hv⟩ := Option.isSome_iff_exists.mp hc
  rw [hv]
  exact je_virt (y := 103) (as := [v0, v1, v2]) D147_116 rfl (by decide) (by decide) rfl hcl hw hv
theorem D147_119 : decode (jt_code 147) 119 = .ok (.istore 9, 2) := by decide +kernel
theorem E147_119 {call : jv_F} {l0 l1 l2 l3 l4 l5 l6 l7 l8 l9 : Option Value} {x : Int32} {st : List Value} {h : jv_H} (hk : ¬ jv_is2 (some l8) = true) : jv_ev call 147 119 [l0, l1, l2, l3, l4, l5, l6, l7, l8, l9] (.int x :: st) h = jv_ev call 147 121 [l0, l1, l2, l3, l4, l5, l6, l7, l8, some (.int x)] st h := je_istore D147_119 rfl (Nat.le_of_ble_eq_true rfl) (by show jv_st1 _ 9 _ = _; simp only [jv_st1, jv_kill, List.getElem?_cons_succ, List.getElem?_cons_zero, hk, if_false]; rfl)
theorem D147_121 : decode (jt_code 147) 121 = .ok (.iload 9, 2) := by decide +kernel
theorem E147_121 {call : jv_F} {l0 l1 l2 l3 l4 l5 l6 l7 l8 : Option Value} {x : Int32} {st : List Value} {h : jv_H} : jv_ev call 147 121 [l0, l1, l2, l3, l4, l5, l6, l7, l8, some (.int x)] st h = jv_ev call 147 123 [l0, l1, l2, l3, l4, l5, l6, l7, l8, some (.int x)] (.int x :: st) h := je_iload D147_121 rfl rfl
theorem D147_123 : decode (jt_code 147) 123 = .ok (.invokestatic 264, 3) := by decide +kernel
theorem E147_123 {call : jv_F} {l0 l1 l2 l3 l4 l5 l6 l7 l8 l9 : Option Value} {v0 : Value}  {st : List Value} {h : jv_H} (hw : jv_wide st = true) (hc : (call 146 [v0] h).isSome = true) : jv_ev call 147 123 [l0, l1, l2, l3, l4, l5, l6, l7, l8, l9] (v0 :: st) h = jv_ev call 147 126 [l0, l1, l2, l3, l4, l5, l6, l7, l8, l9] ((((call 146 [v0] h).getD (none, h)).1).toList ++ st) ((call 146 [v0] h).getD (none, h)).2 := by
  obtain ⟨⟨r, h'⟩, hv⟩ := Option.isSome_iff_exists.mp hc
  rw [hv]
  exact je_stat (y := 146) (as := [v0]) D147_123 rfl (by decide) (by decide) rfl hw hv
theorem D147_126 : decode (jt_code 147) 126 = .ok (.ifCond .eq 20, 3) := by decide +kernel
theorem E147_126 {call : jv_F} {l0 l1 l2 l3 l4 l5 l6 l7 l8 l9 : Option Value} {x : Int32} {st : List Value} {h : jv_H} : jv_ev call 147 126 [l0, l1, l2, l3, l4, l5, l6, l7, l8, l9] (.int x :: st) h = if x = 0 then jv_ev call 147 146 [l0, l1, l2, l3, l4, l5, l6, l7, l8, l9] st h else jv_ev call 147 129 [l0, l1, l2, l3, l4, l5, l6, l7, l8, l9] st h := je_ifc D147_126 (by decide) rfl rfl
theorem D147_129 : decode (jt_code 147) 129 = .ok (.aload_n 0, 1) := by decide +kernel
theorem E147_129 {call : jv_F} {l1 l2 l3 l4 l5 l6 l7 l8 l9 : Option Value} {a : Nat} {st : List Value} {h : jv_H} : jv_ev call 147 129 [some (.ref a), l1, l2, l3, l4, l5, l6, l7, l8, l9] st h = jv_ev call 147 130 [some (.ref a), l1, l2, l3, l4, l5, l6, l7, l8, l9] (.ref a :: st) h := je_aload_n (r := some a) D147_129 rfl rfl
theorem D147_130 : decode (jt_code 147) 130 = .ok (.getfield 19, 3) := by decide +kernel
theorem E147_130 {call : jv_F} {l0 l1 l2 l3 l4 l5 l6 l7 l8 l9 : Option Value} {a : Nat} {st : List Value} {h : jv_H} (hs : (jv_gf h a 6 1).isSome = true) : jv_ev call 147 130 [l0, l1, l2, l3, l4, l5, l6, l7, l8, l9] (.ref a :: st) h = jv_ev call 147 133 [l0, l1, l2, l3, l4, l5, l6, l7, l8, l9] ((jv_gf h a 6 1).getD .null :: st) h := by
  obtain ⟨v, hv⟩ := Option.isSome_iff_exists.mp hs
  rw [hv]
  exact je_get D147_130 rfl (by decide) hv
theorem D147_133 : decode (jt_code 147) 133 = .ok (.aload_n 3, 1) := by decide +kernel
theorem E147_133 {call : jv_F} {l0 l1 l2 l4 l5 l6 l7 l8 l9 : Option Value} {a : Nat} {st : List Value} {h : jv_H} : jv_ev call 147 133 [l0, l1, l2, some (.ref a), l4, l5, l6, l7, l8, l9] st h = jv_ev call 147 134 [l0, l1, l2, some (.ref a), l4, l5, l6, l7, l8, l9] (.ref a :: st) h := je_aload_n (r := some a) D147_133 rfl rfl
theorem E147_133r {call : jv_F} {l0 l1 l2 l4 l5 l6 l7 l8 l9 : Option Value} {r : Option Nat} {st : List Value} {h : jv_H} : jv_ev call 147 133 [l0, l1, l2, some (va_rf r), l4, l5, l6, l7, l8, l9] st h = jv_ev call 147 134 [l0, l1, l2, some (va_rf r), l4, l5, l6, l7, l8, l9] (va_rf r :: st) h := je_aload_n (r := r) D147_133 rfl rfl
theorem D147_134 : decode (jt_code 147) 134 = .ok (.invokevirtual 302, 3) := by decide +kernel
theorem E147_134 {call : jv_F} {l0 l1 l2 l3 l4 l5 l6 l7 l8 l9 : Option Value} {b : Nat} {v0 : Value}  {st : List Value} {h : jv_H} (hw : jv_wide st = true) (hcl : jv_cl h b = some 2) (hc : (call 74 [.ref b, v0] h).isSome = true) : jv_ev call 147 134 [l0, l1, l2, l3, l4, l5, l6, l7, l8, l9] (v0 :: .ref b :: st) h = jv_ev call 147 137 [l0, l1, l2, l3, l4, l5, l6, l7, l8, l9] ((((call 74 [.ref b, v0] h).getD (none, h)).1).toList ++ st) ((call 74 [.ref b, v0] h).getD (none, h)).2 := by
  obtain ⟨⟨r, h'⟩, hv⟩ := Option.isSome_iff_exists.mp hc
  rw [hv]
  exact je_virt (y := 74) (as := [v0]) D147_134 rfl (by decide) (by decide) rfl hcl hw hv
theorem D147_137 : decode (jt_code 147) 137 = .ok (.aload_n 0, 1) := by decide +kernel
theorem E147_137 {call : jv_F} {l1 l2 l3 l4 l5 l6 l7 l8 l9 : Option Value} {a : Nat} {st : List Value} {h : jv_H} : jv_ev call 147 137 [some (.ref a), l1, l2, l3, l4, l5, l6, l7, l8, l9] st h = jv_ev call 147 138 [some (.ref a), l1, l2, l3, l4, l5, l6, l7, l8, l9] (.ref a :: st) h := je_aload_n (r := some a) D147_137 rfl rfl
theorem D147_138 : decode (jt_code 147) 138 = .ok (.getfield 19, 3) := by decide +kernel
theorem E147_138 {call : jv_F} {l0 l1 l2 l3 l4 l5 l6 l7 l8 l9 : Option Value} {a : Nat} {st : List Value} {h : jv_H} (hs : (jv_gf h a 6 1).isSome = true) : jv_ev call 147 138 [l0, l1, l2, l3, l4, l5, l6, l7, l8, l9] (.ref a :: st) h = jv_ev call 147 141 [l0, l1, l2, l3, l4, l5, l6, l7, l8, l9] ((jv_gf h a 6 1).getD .null :: st) h := by
  obtain ⟨v, hv⟩ := Option.isSome_iff_exists.mp hs
  rw [hv]
  exact je_get D147_138 rfl (by decide) hv
theorem D147_141 : decode (jt_code 147) 141 = .ok (.aload 8, 2) := by decide +kernel
theorem E147_141 {call : jv_F} {l0 l1 l2 l3 l4 l5 l6 l7 l9 : Option Value} {a : Nat} {st : List Value} {h : jv_H} : jv_ev call 147 141 [l0, l1, l2, l3, l4, l5, l6, l7, some (.ref a), l9] st h = jv_ev call 147 143 [l0, l1, l2, l3, l4, l5, l6, l7, some (.ref a), l9] (.ref a :: st) h := je_aload (r := some a) D147_141 rfl rfl
theorem E147_141r {call : jv_F} {l0 l1 l2 l3 l4 l5 l6 l7 l9 : Option Value} {r : Option Nat} {st : List Value} {h : jv_H} : jv_ev call 147 141 [l0, l1, l2, l3, l4, l5, l6, l7, some (va_rf r), l9] st h = jv_ev call 147 143 [l0, l1, l2, l3, l4, l5, l6, l7, some (va_rf r), l9] (va_rf r :: st) h := je_aload (r := r) D147_141 rfl rfl
theorem D147_143 : decode (jt_code 147) 143 = .ok (.invokevirtual 302, 3) := by decide +kernel
theorem E147_143 {call : jv_F} {l0 l1 l2 l3 l4 l5 l6 l7 l8 l9 : Option Value} {b : Nat} {v0 : Value}  {st : List Value} {h : jv_H} (hw : jv_wide st = true) (hcl : jv_cl h b = some 2) (hc : (call 74 [.ref b, v0] h).isSome = true) : jv_ev call 147 143 [l0, l1, l2, l3, l4, l5, l6, l7, l8, l9] (v0 :: .ref b :: st) h = jv_ev call 147 146 [l0, l1, l2, l3, l4, l5, l6, l7, l8, l9] ((((call 74 [.ref b, v0] h).getD (none, h)).1).toList ++ st) ((call 74 [.ref b, v0] h).getD (none, h)).2 := by
  obtain ⟨⟨r, h'⟩, hv⟩ := Option.isSome_iff_exists.mp hc
  rw [hv]
  exact je_virt (y := 74) (as := [v0]) D147_143 rfl (by decide) (by decide) rfl hcl hw hv
theorem D147_146 : decode (jt_code 147) 146 = .ok (.iload 9, 2) := by decide +kernel
theorem E147_146 {call : jv_F} {l0 l1 l2 l3 l4 l5 l6 l7 l8 : Option Value} {x : Int32} {st : List Value} {h : jv_H} : jv_ev call 147 146 [l0, l1, l2, l3, l4, l5, l6, l7, l8, some (.int x)] st h = jv_ev call 147 148 [l0, l1, l2, l3, l4, l5, l6, l7, l8, some (.int x)] (.int x :: st) h := je_iload D147_146 rfl rfl
theorem D147_148 : decode (jt_code 147) 148 = .ok (.ireturn, 1) := by decide +kernel
theorem E147_148 {call : jv_F} {l0 l1 l2 l3 l4 l5 l6 l7 l8 l9 : Option Value} {v : Int32} {h : jv_H} : jv_ev call 147 148 [l0, l1, l2, l3, l4, l5, l6, l7, l8, l9] [.int v] h = some (some (.int v), h) := je_iret (ty := .int) D147_148 rfl rfl rfl
/-! method 148: DrumMachine.reach -/
theorem N148 {d : Nat} {b : Nat} {a0 : Option Nat} {a1 : Int32} {h : jv_H} : jv_run (d + 1) 148 [.ref b, va_rf a0, .int a1] h = jv_ev (jv_run d) 148 0 [some (.ref b), some (va_rf a0), some (.int a1), none, none] [] h := by
  cases a0 <;>
  exact jv_run_eq (Nat.le_of_ble_eq_true rfl) rfl
theorem D148_0 : decode (jt_code 148) 0 = .ok (.iload_n 2, 1) := by decide +kernel
theorem E148_0 {call : jv_F} {l0 l1 l3 l4 : Option Value} {x : Int32} {st : List Value} {h : jv_H} : jv_ev call 148 0 [l0, l1, some (.int x), l3, l4] st h = jv_ev call 148 1 [l0, l1, some (.int x), l3, l4] (.int x :: st) h := je_iload_n D148_0 rfl rfl
theorem D148_1 : decode (jt_code 148) 1 = .ok (.invokestatic 305, 3) := by decide +kernel
theorem E148_1 {call : jv_F} {l0 l1 l2 l3 l4 : Option Value} {v0 : Value}  {st : List Value} {h : jv_H} (hw : jv_wide st = true) (hc : (call 91 [v0] h).isSome = true) : jv_ev call 148 1 [l0, l1, l2, l3, l4] (v0 :: st) h = jv_ev call 148 4 [l0, l1, l2, l3, l4] ((((call 91 [v0] h).getD (none, h)).1).toList ++ st) ((call 91 [v0] h).getD (none, h)).2 := by
  obtain ⟨⟨r, h'⟩, hv⟩ := Option.isSome_iff_exists.mp hc
  rw [hv]
  exact je_stat (y := 91) (as := [v0]) D148_1 rfl (by decide) (by decide) rfl hw hv
theorem D148_4 : decode (jt_code 148) 4 = .ok (.ifCond .ne 5, 3) := by decide +kernel
theorem E148_4 {call : jv_F} {l0 l1 l2 l3 l4 : Option Value} {x : Int32} {st : List Value} {h : jv_H} : jv_ev call 148 4 [l0, l1, l2, l3, l4] (.int x :: st) h = if ¬ x = 0 then jv_ev call 148 9 [l0, l1, l2, l3, l4] st h else jv_ev call 148 7 [l0, l1, l2, l3, l4] st h := je_ifc D148_4 (by decide) rfl rfl
theorem D148_7 : decode (jt_code 148) 7 = .ok (.iconst 4, 1) := by decide +kernel
theorem E148_7 {call : jv_F} {l0 l1 l2 l3 l4 : Option Value}  {st : List Value} {h : jv_H} : jv_ev call 148 7 [l0, l1, l2, l3, l4] st h = jv_ev call 148 8 [l0, l1, l2, l3, l4] (.int (nI 4) :: st) h := je_iconst D148_7 rfl (by decide)
theorem D148_8 : decode (jt_code 148) 8 = .ok (.ireturn, 1) := by decide +kernel
theorem E148_8 {call : jv_F} {l0 l1 l2 l3 l4 : Option Value} {v : Int32} {h : jv_H} : jv_ev call 148 8 [l0, l1, l2, l3, l4] [.int v] h = some (some (.int v), h) := je_iret (ty := .int) D148_8 rfl rfl rfl
theorem D148_9 : decode (jt_code 148) 9 = .ok (.aload_n 1, 1) := by decide +kernel
theorem E148_9 {call : jv_F} {l0 l2 l3 l4 : Option Value} {a : Nat} {st : List Value} {h : jv_H} : jv_ev call 148 9 [l0, some (.ref a), l2, l3, l4] st h = jv_ev call 148 10 [l0, some (.ref a), l2, l3, l4] (.ref a :: st) h := je_aload_n (r := some a) D148_9 rfl rfl
theorem E148_9r {call : jv_F} {l0 l2 l3 l4 : Option Value} {r : Option Nat} {st : List Value} {h : jv_H} : jv_ev call 148 9 [l0, some (va_rf r), l2, l3, l4] st h = jv_ev call 148 10 [l0, some (va_rf r), l2, l3, l4] (va_rf r :: st) h := je_aload_n (r := r) D148_9 rfl rfl
theorem D148_10 : decode (jt_code 148) 10 = .ok (.iload_n 2, 1) := by decide +kernel
theorem E148_10 {call : jv_F} {l0 l1 l3 l4 : Option Value} {x : Int32} {st : List Value} {h : jv_H} : jv_ev call 148 10 [l0, l1, some (.int x), l3, l4] st h = jv_ev call 148 11 [l0, l1, some (.int x), l3, l4] (.int x :: st) h := je_iload_n D148_10 rfl rfl
theorem D148_11 : decode (jt_code 148) 11 = .ok (.invokevirtual 277, 3) := by decide +kernel
theorem E148_11 {call : jv_F} {l0 l1 l2 l3 l4 : Option Value} {b : Nat} {v0 : Value}  {st : List Value} {h : jv_H} (hw : jv_wide st = true) (hcl : jv_cl h b = some 4) (hc : (call 95 [.ref b, v0] h).isSome = true) : jv_ev call 148 11 [l0, l1, l2, l3, l4] (v0 :: .ref b :: st) h = jv_ev call 148 14 [l0, l1, l2, l3, l4] ((((call 95 [.ref b, v0] h).getD (none, h)).1).toList ++ st) ((call 95 [.ref b, v0] h).getD (none, h)).2 := by
  obtain ⟨⟨r, h'⟩, hv⟩ := Option.isSome_iff_exists.mp hc
  rw [hv]
  exact je_virt (y := 95) (as := [v0]) D148_11 rfl (by decide) (by decide) rfl hcl hw hv
theorem D148_14 : decode (jt_code 148) 14 = .ok (.astore_n 3, 1) := by decide +kernel
theorem E148_14 {call : jv_F} {l0 l1 l2 l3 l4 : Option Value} {a : Nat} {st : List Value} {h : jv_H} (hk : ¬ jv_is2 (some l2) = true) : jv_ev call 148 14 [l0, l1, l2, l3, l4] (.ref a :: st) h = jv_ev call 148 15 [l0, l1, l2, some (.ref a), l4] st h := je_astore_n (r := some a) D148_14 rfl (Nat.le_of_ble_eq_true rfl) (by show jv_st1 _ 3 _ = _; simp only [jv_st1, jv_kill, List.getElem?_cons_succ, List.getElem?_cons_zero, hk, if_false]; rfl)
theorem E148_14r {call : jv_F} {l0 l1 l2 l3 l4 : Option Value} {r : Option Nat} {st : List Value} {h : jv_H} (hk : ¬ jv_is2 (some l2) = true) : jv_ev call 148 14 [l0, l1, l2, l3, l4] (va_rf r :: st) h = jv_ev call 148 15 [l0, l1, l2, some (va_rf r), l4] st h := je_astore_n (r := r) D148_14 rfl (Nat.le_of_ble_eq_true rfl) (by show jv_st1 _ 3 _ = _; simp only [jv_st1, jv_kill, List.getElem?_cons_succ, List.getElem?_cons_zero, hk, if_false]; rfl)
theorem D148_15 : decode (jt_code 148) 15 = .ok (.aload_n 3, 1) := by decide +kernel
theorem E148_15 {call : jv_F} {l0 l1 l2 l4 : Option Value} {a : Nat} {st : List Value} {h : jv_H} : jv_ev call 148 15 [l0, l1, l2, some (.ref a), l4] st h = jv_ev call 148 16 [l0, l1, l2, some (.ref a), l4] (.ref a :: st) h := je_aload_n (r := some a) D148_15 rfl rfl
theorem E148_15r {call : jv_F} {l0 l1 l2 l4 : Option Value} {r : Option Nat} {st : List Value} {h : jv_H} : jv_ev call 148 15 [l0, l1, l2, some (va_rf r), l4] st h = jv_ev call 148 16 [l0, l1, l2, some (va_rf r), l4] (va_rf r :: st) h := je_aload_n (r := r) D148_15 rfl rfl
theorem D148_16 : decode (jt_code 148) 16 = .ok (.ifnonnull 14, 3) := by decide +kernel
theorem E148_16r {call : jv_F} {l0 l1 l2 l3 l4 : Option Value} {x : Option Nat} {st : List Value} {h : jv_H} : jv_ev call 148 16 [l0, l1, l2, l3, l4] (va_rf x :: st) h = if x = none then jv_ev call 148 19 [l0, l1, l2, l3, l4] st h else jv_ev call 148 30 [l0, l1, l2, l3, l4] st h := je_ifnonnull D148_16 (by decide) rfl
theorem E148_16 {call : jv_F} {l0 l1 l2 l3 l4 : Option Value} {x : Nat} {st : List Value} {h : jv_H} : jv_ev call 148 16 [l0, l1, l2, l3, l4] (.ref x :: st) h = jv_ev call 148 30 [l0, l1, l2, l3, l4] st h := (je_ifnonnull (x := some x) (t := 30) D148_16 (by decide) rfl).trans (if_neg (by simp))
theorem D148_19 : decode (jt_code 148) 19 = .ok (.aload_n 0, 1) := by decide +kernel
theorem E148_19 {call : jv_F} {l1 l2 l3 l4 : Option Value} {a : Nat} {st : List Value} {h : jv_H} : jv_ev call 148 19 [some (.ref a), l1, l2, l3, l4] st h = jv_ev call 148 20 [some (.ref a), l1, l2, l3, l4] (.ref a :: st) h := je_aload_n (r := some a) D148_19 rfl rfl
theorem D148_20 : decode (jt_code 148) 20 = .ok (.getfield 43, 3) := by decide +kernel
theorem E148_20 {call : jv_F} {l0 l1 l2 l3 l4 : Option Value} {a : Nat} {st : List Value} {h : jv_H} (hs : (jv_gf h a 6 6).isSome = true) : jv_ev call 148 20 [l0, l1, l2, l3, l4] (.ref a :: st) h = jv_ev call 148 23 [l0, l1, l2, l3, l4] ((jv_gf h a 6 6).getD .null :: st) h := by
  obtain ⟨v, hv⟩ := Option.isSome_iff_exists.mp hs
  rw [hv]
  exact je_get D148_20 rfl (by decide) hv
theorem D148_23 : decode (jt_code 148) 23 = .ok (.bipush 64, 2) := by decide +kernel
theorem E148_23 {call : jv_F} {l0 l1 l2 l3 l4 : Option Value}  {st : List Value} {h : jv_H} : jv_ev call 148 23 [l0, l1, l2, l3, l4] st h = jv_ev call 148 25 [l0, l1, l2, l3, l4] (.int (nI 64) :: st) h := je_bipush D148_23 rfl (by decide)
theorem D148_25 : decode (jt_code 148) 25 = .ok (.if_icmp .lt 5, 3) := by decide +kernel
theorem E148_25 {call : jv_F} {l0 l1 l2 l3 l4 : Option Value} {x y : Int32} {st : List Value} {h : jv_H} : jv_ev call 148 25 [l0, l1, l2, l3, l4] (.int y :: .int x :: st) h = if x < y then jv_ev call 148 30 [l0, l1, l2, l3, l4] st h else jv_ev call 148 28 [l0, l1, l2, l3, l4] st h := je_icmp D148_25 (by decide) rfl rfl
theorem D148_28 : decode (jt_code 148) 28 = .ok (.iconst 5, 1) := by decide +kernel
theorem E148_28 {call : jv_F} {l0 l1 l2 l3 l4 : Option Value}  {st : List Value} {h : jv_H} : jv_ev call 148 28 [l0, l1, l2, l3, l4] st h = jv_ev call 148 29 [l0, l1, l2, l3, l4] (.int (nI 5) :: st) h := je_iconst D148_28 rfl (by decide)
theorem D148_29 : decode (jt_code 148) 29 = .ok (.ireturn, 1) := by decide +kernel
theorem E148_29 {call : jv_F} {l0 l1 l2 l3 l4 : Option Value} {v : Int32} {h : jv_H} : jv_ev call 148 29 [l0, l1, l2, l3, l4] [.int v] h = some (some (.int v), h) := je_iret (ty := .int) D148_29 rfl rfl rfl
theorem D148_30 : decode (jt_code 148) 30 = .ok (.aload_n 3, 1) := by decide +kernel
theorem E148_30 {call : jv_F} {l0 l1 l2 l4 : Option Value} {a : Nat} {st : List Value} {h : jv_H} : jv_ev call 148 30 [l0, l1, l2, some (.ref a), l4] st h = jv_ev call 148 31 [l0, l1, l2, some (.ref a), l4] (.ref a :: st) h := je_aload_n (r := some a) D148_30 rfl rfl
theorem E148_30r {call : jv_F} {l0 l1 l2 l4 : Option Value} {r : Option Nat} {st : List Value} {h : jv_H} : jv_ev call 148 30 [l0, l1, l2, some (va_rf r), l4] st h = jv_ev call 148 31 [l0, l1, l2, some (va_rf r), l4] (va_rf r :: st) h := je_aload_n (r := r) D148_30 rfl rfl
theorem D148_31 : decode (jt_code 148) 31 = .ok (.ifnull 18, 3) := by decide +kernel
theorem E148_31r {call : jv_F} {l0 l1 l2 l3 l4 : Option Value} {x : Option Nat} {st : List Value} {h : jv_H} : jv_ev call 148 31 [l0, l1, l2, l3, l4] (va_rf x :: st) h = if x = none then jv_ev call 148 49 [l0, l1, l2, l3, l4] st h else jv_ev call 148 34 [l0, l1, l2, l3, l4] st h := je_ifnull D148_31 (by decide) rfl
theorem E148_31 {call : jv_F} {l0 l1 l2 l3 l4 : Option Value} {x : Nat} {st : List Value} {h : jv_H} : jv_ev call 148 31 [l0, l1, l2, l3, l4] (.ref x :: st) h = jv_ev call 148 34 [l0, l1, l2, l3, l4] st h := (je_ifnull (x := some x) (t := 49) D148_31 (by decide) rfl).trans (if_neg (by simp))
theorem D148_34 : decode (jt_code 148) 34 = .ok (.aload_n 3, 1) := by decide +kernel
theorem E148_34 {call : jv_F} {l0 l1 l2 l4 : Option Value} {a : Nat} {st : List Value} {h : jv_H} : jv_ev call 148 34 [l0, l1, l2, some (.ref a), l4] st h = jv_ev call 148 35 [l0, l1, l2, some (.ref a), l4] (.ref a :: st) h := je_aload_n (r := some a) D148_34 rfl rfl
theorem E148_34r {call : jv_F} {l0 l1 l2 l4 : Option Value} {r : Option Nat} {st : List Value} {h : jv_H} : jv_ev call 148 34 [l0, l1, l2, some (va_rf r), l4] st h = jv_ev call 148 35 [l0, l1, l2, some (va_rf r), l4] (va_rf r :: st) h := je_aload_n (r := r) D148_34 rfl rfl
theorem D148_35 : decode (jt_code 148) 35 = .ok (.getfield 308, 3) := by decide +kernel
theorem E148_35 {call : jv_F} {l0 l1 l2 l3 l4 : Option Value} {a : Nat} {st : List Value} {h : jv_H} (hs : (jv_gf h a 1 2).isSome = true) : jv_ev call 148 35 [l0, l1, l2, l3, l4] (.ref a :: st) h = jv_ev call 148 38 [l0, l1, l2, l3, l4] ((jv_gf h a 1 2).getD .null :: st) h := by
  obtain ⟨v, hv⟩ := Option.isSome_iff_exists.mp hs
  rw [hv]
  exact je_get D148_35 rfl (by decide) hv
theorem D148_38 : decode (jt_code 148) 38 = .ok (.iconst (-1), 1) := by decide +kernel
theorem E148_38 {call : jv_F} {l0 l1 l2 l3 l4 : Option Value}  {st : List Value} {h : jv_H} : jv_ev call 148 38 [l0, l1, l2, l3, l4] st h = jv_ev call 148 39 [l0, l1, l2, l3, l4] (.int (-1) :: st) h := je_iconst D148_38 rfl (by decide)
theorem D148_39 : decode (jt_code 148) 39 = .ok (.if_icmp .eq 10, 3) := by decide +kernel
theorem E148_39 {call : jv_F} {l0 l1 l2 l3 l4 : Option Value} {x y : Int32} {st : List Value} {h : jv_H} : jv_ev call 148 39 [l0, l1, l2, l3, l4] (.int y :: .int x :: st) h = if x = y then jv_ev call 148 49 [l0, l1, l2, l3, l4] st h else jv_ev call 148 42 [l0, l1, l2, l3, l4] st h := je_icmp D148_39 (by decide) rfl rfl
theorem D148_42 : decode (jt_code 148) 42 = .ok (.aload_n 0, 1) := by decide +kernel
theorem E148_42 {call : jv_F} {l1 l2 l3 l4 : Option Value} {a : Nat} {st : List Value} {h : jv_H} : jv_ev call 148 42 [some (.ref a), l1, l2, l3, l4] st h = jv_ev call 148 43 [some (.ref a), l1, l2, l3, l4] (.ref a :: st) h := je_aload_n (r := some a) D148_42 rfl rfl
theorem D148_43 : decode (jt_code 148) 43 = .ok (.aload_n 1, 1) := by decide +kernel
theorem E148_43 {call : jv_F} {l0 l2 l3 l4 : Option Value} {a : Nat} {st : List Value} {h : jv_H} : jv_ev call 148 43 [l0, some (.ref a), l2, l3, l4] st h = jv_ev call 148 44 [l0, some (.ref a), l2, l3, l4] (.ref a :: st) h := je_aload_n (r := some a) D148_43 rfl rfl
theorem E148_43r {call : jv_F} {l0 l2 l3 l4 : Option Value} {r : Option Nat} {st : List Value} {h : jv_H} : jv_ev call 148 43 [l0, some (va_rf r), l2, l3, l4] st h = jv_ev call 148 44 [l0, some (va_rf r), l2, l3, l4] (va_rf r :: st) h := je_aload_n (r := r) D148_43 rfl rfl
theorem D148_44 : decode (jt_code 148) 44 = .ok (.aload_n 3, 1) := by decide +kernel
theorem E148_44 {call : jv_F} {l0 l1 l2 l4 : Option Value} {a : Nat} {st : List Value} {h : jv_H} : jv_ev call 148 44 [l0, l1, l2, some (.ref a), l4] st h = jv_ev call 148 45 [l0, l1, l2, some (.ref a), l4] (.ref a :: st) h := je_aload_n (r := some a) D148_44 rfl rfl
theorem E148_44r {call : jv_F} {l0 l1 l2 l4 : Option Value} {r : Option Nat} {st : List Value} {h : jv_H} : jv_ev call 148 44 [l0, l1, l2, some (va_rf r), l4] st h = jv_ev call 148 45 [l0, l1, l2, some (va_rf r), l4] (va_rf r :: st) h := je_aload_n (r := r) D148_44 rfl rfl
theorem D148_45 : decode (jt_code 148) 45 = .ok (.invokevirtual 310, 3) := by decide +kernel
theorem E148_45 {call : jv_F} {l0 l1 l2 l3 l4 : Option Value} {b : Nat} {v0 v1 : Value}  {st : List Value} {h : jv_H} (hw : jv_wide st = true) (hcl : jv_cl h b = some 6) (hc : (call 149 [.ref b, v0, v1] h).isSome = true) : jv_ev call 148 45 [l0, l1, l2, l3, l4] (v1 :: v0 :: .ref b :: st) h = jv_ev call 148 48 [l0, l1, l2, l3, l4] ((((call 149 [.ref b, v0, v1] h).getD (none, h)).1).toList ++ st) ((call 149 [.ref b, v0, v1] h).getD (none, h)).2 := by
  obtain ⟨⟨r, h'⟩, hv⟩ := Option.isSome_iff_exists.mp hc
  rw [hv]
  exact je_virt (y := 149) (as := [v0, v1]) D148_45 rfl (by decide) (by decide) rfl hcl hw hv
theorem D148_48 : decode (jt_code 148) 48 = .ok (.ireturn, 1) := by decide +kernel
theorem E148_48 {call : jv_F} {l0 l1 l2 l3 l4 : Option Value} {v : Int32} {h : jv_H} : jv_ev call 148 48 [l0, l1, l2, l3, l4] [.int v] h = some (some (.int v), h) := je_iret (ty := .int) D148_48 rfl rfl rfl
theorem D148_49 : decode (jt_code 148) 49 = .ok (.aload_n 0, 1) := by decide +kernel
theorem E148_49 {call : jv_F} {l1 l2 l3 l4 : Option Value} {a : Nat} {st : List Value} {h : jv_H} : jv_ev call 148 49 [some (.ref a), l1, l2, l3, l4] st h = jv_ev call 148 50 [some (.ref a), l1, l2, l3, l4] (.ref a :: st) h := je_aload_n (r := some a) D148_49 rfl rfl
theorem D148_50 : decode (jt_code 148) 50 = .ok (.getfield 19, 3) := by decide +kernel
theorem E148_50 {call : jv_F} {l0 l1 l2 l3 l4 : Option Value} {a : Nat} {st : List Value} {h : jv_H} (hs : (jv_gf h a 6 1).isSome = true) : jv_ev call 148 50 [l0, l1, l2, l3, l4] (.ref a :: st) h = jv_ev call 148 53 [l0, l1, l2, l3, l4] ((jv_gf h a 6 1).getD .null :: st) h := by
  obtain ⟨v, hv⟩ := Option.isSome_iff_exists.mp hs
  rw [hv]
  exact je_get D148_50 rfl (by decide) hv
theorem D148_53 : decode (jt_code 148) 53 = .ok (.invokevirtual 314, 3) := by decide +kernel
theorem E148_53 {call : jv_F} {l0 l1 l2 l3 l4 : Option Value} {b : Nat}  {st : List Value} {h : jv_H} (hw : jv_wide st = true) (hcl : jv_cl h b = some 2) (hc : (call 70 [.ref b] h).isSome = true) : jv_ev call 148 53 [l0, l1, l2, l3, l4] (.ref b :: st) h = jv_ev call 148 56 [l0, l1, l2, l3, l4] ((((call 70 [.ref b] h).getD (none, h)).1).toList ++ st) ((call 70 [.ref b] h).getD (none, h)).2 := by
  obtain ⟨⟨r, h'⟩, hv⟩ := Option.isSome_iff_exists.mp hc
  rw [hv]
  exact je_virt (y := 70) (as := []) D148_53 rfl (by decide) (by decide) rfl hcl hw hv
theorem D148_56 : decode (jt_code 148) 56 = .ok (.istore 4, 2) := by decide +kernel
theorem E148_56 {call : jv_F} {l0 l1 l2 l3 l4 : Option Value} {x : Int32} {st : List Value} {h : jv_H} (hk : ¬ jv_is2 (some l3) = true) : jv_ev call 148 56 [l0, l1, l2, l3, l4] (.int x :: st) h = jv_ev call 148 58 [l0, l1, l2, l3, some (.int x)] st h := je_istore D148_56 rfl (Nat.le_of_ble_eq_true rfl) (by show jv_st1 _ 4 _ = _; simp only [jv_st1, jv_kill, List.getElem?_cons_succ, List.getElem?_cons_zero, hk, if_false]; rfl)
theorem D148_58 : decode (jt_code 148) 58 = .ok (.iload 4, 2) := by decide +kernel
theorem E148_58 {call : jv_F} {l0 l1 l2 l3 : Option Value} {x : Int32} {st : List Value} {h : jv_H} : jv_ev call 148 58 [l0, l1, l2, l3, some (.int x)] st h = jv_ev call 148 60 [l0, l1, l2, l3, some (.int x)] (.int x :: st) h := je_iload D148_58 rfl rfl
theorem D148_60 : decode (jt_code 148) 60 = .ok (.iconst (-1), 1) := by decide +kernel
theorem E148_60 {call : jv_F} {l0 l1 l2 l3 l4 : Option Value}  {st : List Value} {h : jv_H} : jv_ev call 148 60 [l0, l1, l2, l3, l4] st h = jv_ev call 148 61 [l0, l1, l2, l3, l4] (.int (-1) :: st) h := je_iconst D148_60 rfl (by decide)
theorem D148_61 : decode (jt_code 148) 61 = .ok (.if_icmp .ne 10, 3) := by decide +kernel
theorem E148_61 {call : jv_F} {l0 l1 l2 l3 l4 : Option Value} {x y : Int32} {st : List Value} {h : jv_H} : jv_ev call 148 61 [l0, l1, l2, l3, l4] (.int y :: .int x :: st) h = if ¬ x = y then jv_ev call 148 71 [l0, l1, l2, l3, l4] st h else jv_ev call 148 64 [l0, l1, l2, l3, l4] st h := je_icmp D148_61 (by decide) rfl rfl
theorem D148_64 : decode (jt_code 148) 64 = .ok (.aload_n 1, 1) := by decide +kernel
theorem E148_64 {call : jv_F} {l0 l2 l3 l4 : Option Value} {a : Nat} {st : List Value} {h : jv_H} : jv_ev call 148 64 [l0, some (.ref a), l2, l3, l4] st h = jv_ev call 148 65 [l0, some (.ref a), l2, l3, l4] (.ref a :: st) h := je_aload_n (r := some a) D148_64 rfl rfl
theorem E148_64r {call : jv_F} {l0 l2 l3 l4 : Option Value} {r : Option Nat} {st : List Value} {h : jv_H} : jv_ev call 148 64 [l0, some (va_rf r), l2, l3, l4] st h = jv_ev call 148 65 [l0, some (va_rf r), l2, l3, l4] (va_rf r :: st) h := je_aload_n (r := r) D148_64 rfl rfl
theorem D148_65 : decode (jt_code 148) 65 = .ok (.iconst 1, 1) := by decide +kernel
theorem E148_65 {call : jv_F} {l0 l1 l2 l3 l4 : Option Value}  {st : List Value} {h : jv_H} : jv_ev call 148 65 [l0, l1, l2, l3, l4] st h = jv_ev call 148 66 [l0, l1, l2, l3, l4] (.int (nI 1) :: st) h := je_iconst D148_65 rfl (by decide)
theorem D148_66 : decode (jt_code 148) 66 = .ok (.putfield 317, 3) := by decide +kernel
theorem E148_66 {call : jv_F} {l0 l1 l2 l3 l4 : Option Value} {a : Nat} {v : Value} {st : List Value} {h : jv_H} (hs : (jv_pf h a 4 15 v).isSome = true) : jv_ev call 148 66 [l0, l1, l2, l3, l4] (v :: .ref a :: st) h = jv_ev call 148 69 [l0, l1, l2, l3, l4] st ((jv_pf h a 4 15 v).getD h) := by
  obtain ⟨h', hv⟩ := Option.isSome_iff_exists.mp hs
  rw [hv]
  exact je_put D148_66 rfl (by decide) (by decide) hv
theorem D148_69 : decode (jt_code 148) 69 = .ok (.iconst (-1), 1) := by decide +kernel
theorem E148_69 {call : jv_F} {l0 l1 l2 l3 l4 : Option Value}  {st : List Value} {h : jv_H} : jv_ev call 148 69 [l0, l1, l2, l3, l4] st h = jv_ev call 148 70 [l0, l1, l2, l3, l4] (.int (-1) :: st) h := je_iconst D148_69 rfl (by decide)
theorem D148_70 : decode (jt_code 148) 70 = .ok (.ireturn, 1) := by decide +kernel
theorem E148_70 {call : jv_F} {l0 l1 l2 l3 l4 : Option Value} {v : Int32} {h : jv_H} : jv_ev call 148 70 [l0, l1, l2, l3, l4] [.int v] h = some (some (.int v), h) := je_iret (ty := .int) D148_70 rfl rfl rfl
theorem D148_71 : decode (jt_code 148) 71 = .ok (.aload_n 3, 1) := by decide +kernel
theorem E148_71 {call : jv_F} {l0 l1 l2 l4 : Option Value} {a : Nat} {st : List Value} {h : jv_H} : jv_ev call 148 71 [l0, l1, l2, some (.ref a), l4] st h = jv_ev call 148 72 [l0, l1, l2, some (.ref a), l4] (.ref a :: st) h := je_aload_n (r := some a) D148_71 rfl rfl
theorem E148_71r {call : jv_F} {l0 l1 l2 l4 : Option Value} {r : Option Nat} {st : List Value} {h : jv_H} : jv_ev call 148 71 [l0, l1, l2, some (va_rf r), l4] st h = jv_ev call 148 72 [l0, l1, l2, some (va_rf r), l4] (va_rf r :: st) h := je_aload_n (r := r) D148_71 rfl rfl
theorem D148_72 : decode (jt_code 148) 72 = .ok (.ifnonnull 23, 3) := by decide +kernel
theorem E148_72r {call : jv_F} {l0 l1 l2 l3 l4 : Option Value} {x : Option Nat} {st : List Value} {h : jv_H} : jv_ev call 148 72 [l0, l1, l2, l3, l4] (va_rf x :: st) h = if x = none then jv_ev call 148 75 [l0, l1, l2, l3, l4] st h else jv_ev call 148 95 [l0, l1, l2, l3, l4] st h := je_ifnonnull D148_72 (by decide) rfl
theorem E148_72 {call : jv_F} {l0 l1 l2 l3 l4 : Option Value} {x : Nat} {st : List Value} {h : jv_H} : jv_ev call 148 72 [l0, l1, l2, l3, l4] (.ref x :: st) h = jv_ev call 148 95 [l0, l1, l2, l3, l4] st h := (je_ifnonnull (x := some x) (t := 95) D148_72 (by decide) rfl).trans (if_neg (by simp))
theorem D148_75 : decode (jt_code 148) 75 = .ok (.aload_n 0, 1) := by decide +kernel
theorem E148_75 {call : jv_F} {l1 l2 l3 l4 : Option Value} {a : Nat} {st : List Value} {h : jv_H} : jv_ev call 148 75 [some (.ref a), l1, l2, l3, l4] st h = jv_ev call 148 76 [some (.ref a), l1, l2, l3, l4] (.ref a :: st) h := je_aload_n (r := some a) D148_75 rfl rfl
theorem D148_76 : decode (jt_code 148) 76 = .ok (.getfield 19, 3) := by decide +kernel
theorem E148_76 {call : jv_F} {l0 l1 l2 l3 l4 : Option Value} {a : Nat} {st : List Value} {h : jv_H} (hs : (jv_gf h a 6 1).isSome = true) : jv_ev call 148 76 [l0, l1, l2, l3, l4] (.ref a :: st) h = jv_ev call 148 79 [l0, l1, l2, l3, l4] ((jv_gf h a 6 1).getD .null :: st) h := by
  obtain ⟨v, hv⟩ := Option.isSome_iff_exists.mp hs
  rw [hv]
  exact je_get D148_76 rfl (by decide) hv
theorem D148_79 : decode (jt_code 148) 79 = .ok (.aload_n 0, 1) := by decide +kernel
theorem E148_79 {call : jv_F} {l1 l2 l3 l4 : Option Value} {a : Nat} {st : List Value} {h : jv_H} : jv_ev call 148 79 [some (.ref a), l1, l2, l3, l4] st h = jv_ev call 148 80 [some (.ref a), l1, l2, l3, l4] (.ref a :: st) h := je_aload_n (r := some a) D148_79 rfl rfl
theorem D148_80 : decode (jt_code 148) 80 = .ok (.aload_n 1, 1) := by decide +kernel
theorem E148_80 {call : jv_F} {l0 l2 l3 l4 : Option Value} {a : Nat} {st : List Value} {h : jv_H} : jv_ev call 148 80 [l0, some (.ref a), l2, l3, l4] st h = jv_ev call 148 81 [l0, some (.ref a), l2, l3, l4] (.ref a :: st) h := je_aload_n (r := some a) D148_80 rfl rfl
theorem E148_80r {call : jv_F} {l0 l2 l3 l4 : Option Value} {r : Option Nat} {st : List Value} {h : jv_H} : jv_ev call 148 80 [l0, some (va_rf r), l2, l3, l4] st h = jv_ev call 148 81 [l0, some (va_rf r), l2, l3, l4] (va_rf r :: st) h := je_aload_n (r := r) D148_80 rfl rfl
theorem D148_81 : decode (jt_code 148) 81 = .ok (.iload_n 2, 1) := by decide +kernel
theorem E148_81 {call : jv_F} {l0 l1 l3 l4 : Option Value} {x : Int32} {st : List Value} {h : jv_H} : jv_ev call 148 81 [l0, l1, some (.int x), l3, l4] st h = jv_ev call 148 82 [l0, l1, some (.int x), l3, l4] (.int x :: st) h := je_iload_n D148_81 rfl rfl
theorem D148_82 : decode (jt_code 148) 82 = .ok (.bipush 16, 2) := by decide +kernel
theorem E148_82 {call : jv_F} {l0 l1 l2 l3 l4 : Option Value}  {st : List Value} {h : jv_H} : jv_ev call 148 82 [l0, l1, l2, l3, l4] st h = jv_ev call 148 84 [l0, l1, l2, l3, l4] (.int (nI 16) :: st) h := je_bipush D148_82 rfl (by decide)
theorem D148_84 : decode (jt_code 148) 84 = .ok (.idiv, 1) := by decide +kernel
theorem E148_84 {call : jv_F} {l0 l1 l2 l3 l4 : Option Value} {x y : Int32} {st : List Value} {h : jv_H} (hy : ¬ y = 0) : jv_ev call 148 84 [l0, l1, l2, l3, l4] (.int y :: .int x :: st) h = jv_ev call 148 85 [l0, l1, l2, l3, l4] (.int (x / y) :: st) h := je_idiv D148_84 rfl hy
theorem D148_85 : decode (jt_code 148) 85 = .ok (.invokevirtual 92, 3) := by decide +kernel
theorem E148_85 {call : jv_F} {l0 l1 l2 l3 l4 : Option Value} {b : Nat} {v0 v1 : Value}  {st : List Value} {h : jv_H} (hw : jv_wide st = true) (hcl : jv_cl h b = some 6) (hc : (call 150 [.ref b, v0, v1] h).isSome = true) : jv_ev call 148 85 [l0, l1, l2, l3, l4] (v1 :: v0 :: .ref b :: st) h = jv_ev call 148 88 [l0, l1, l2, l3, l4] ((((call 150 [.ref b, v0, v1] h).getD (none, h)).1).toList ++ st) ((call 150 [.ref b, v0, v1] h).getD (none, h)).2 := by
  obtain ⟨⟨r, h'⟩, hv⟩ := Option.isSome_iff_exists.mp hc
  rw [hv]
  exact je_virt (y := 150) (as := [v0, v1]) D148_85 rfl (by decide) (by decide) rfl hcl hw hv
theorem D148_88 : decode (jt_code 148) 88 = .ok (.iload 4, 2) := by decide +kernel
theorem E148_88 {call : jv_F} {l0 l1 l2 l3 : Option Value} {x : Int32} {st : List Value} {h : jv_H} : jv_ev call 148 88 [l0, l1, l2, l3, some (.int x)] st h = jv_ev call 148 90 [l0, l1, l2, l3, some (.int x)] (.int x :: st) h := je_iload D148_88 rfl rfl
theorem D148_90 : decode (jt_code 148) 90 = .ok (.invokevirtual 320, 3) := by decide +kernel
theorem E148_90 {call : jv_F} {l0 l1 l2 l3 l4 : Option Value} {b : Nat} {v0 v1 : Value}  {st : List Value} {h : jv_H} (hw : jv_wide st = true) (hcl : jv_cl h b = some 2) (hc : (call 71 [.ref b, v0, v1] h).isSome = true) : jv_ev call 148 90 [l0, l1, l2, l3, l4] (v1 :: v0 :: .ref b :: st) h = jv_ev call 148 93 [l0, l1, l2, l3, l4] ((((call 71 [.ref b, v0, v1] h).getD (none, h)).1).toList ++ st) ((call 71 [.ref b, v0, v1] h).getD (none, h)).2 := by
  obtain ⟨⟨r, h'⟩, hv⟩ := Option.isSome_iff_exists.mp hc
  rw [hv]
  exact je_virt (y := 71) (as := [v0, v1]) D148_90 rfl (by decide) (by decide) rfl hcl hw hv
theorem D148_93 : decode (jt_code 148) 93 = .ok (.iconst 0, 1) := by decide +kernel
theorem E148_93 {call : jv_F} {l0 l1 l2 l3 l4 : Option Value}  {st : List Value} {h : jv_H} : jv_ev call 148 93 [l0, l1, l2, l3, l4] st h = jv_ev call 148 94 [l0, l1, l2, l3, l4] (.int (nI 0) :: st) h := je_iconst D148_93 rfl (by decide)
theorem D148_94 : decode (jt_code 148) 94 = .ok (.ireturn, 1) := by decide +kernel
theorem E148_94 {call : jv_F} {l0 l1 l2 l3 l4 : Option Value} {v : Int32} {h : jv_H} : jv_ev call 148 94 [l0, l1, l2, l3, l4] [.int v] h = some (some (.int v), h) := je_iret (ty := .int) D148_94 rfl rfl rfl
theorem D148_95 : decode (jt_code 148) 95 = .ok (.aload_n 0, 1) := by decide +kernel
theorem E148_95 {call : jv_F} {l1 l2 l3 l4 : Option Value} {a : Nat} {st : List Value} {h : jv_H} : jv_ev call 148 95 [some (.ref a), l1, l2, l3, l4] st h = jv_ev call 148 96 [some (.ref a), l1, l2, l3, l4] (.ref a :: st) h := je_aload_n (r := some a) D148_95 rfl rfl
theorem D148_96 : decode (jt_code 148) 96 = .ok (.getfield 19, 3) := by decide +kernel
theorem E148_96 {call : jv_F} {l0 l1 l2 l3 l4 : Option Value} {a : Nat} {st : List Value} {h : jv_H} (hs : (jv_gf h a 6 1).isSome = true) : jv_ev call 148 96 [l0, l1, l2, l3, l4] (.ref a :: st) h = jv_ev call 148 99 [l0, l1, l2, l3, l4] ((jv_gf h a 6 1).getD .null :: st) h := by
  obtain ⟨v, hv⟩ := Option.isSome_iff_exists.mp hs
  rw [hv]
  exact je_get D148_96 rfl (by decide) hv
theorem D148_99 : decode (jt_code 148) 99 = .ok (.aload_n 3, 1) := by decide +kernel
theorem E148_99 {call : jv_F} {l0 l1 l2 l4 : Option Value} {a : Nat} {st : List Value} {h : jv_H} : jv_ev call 148 99 [l0, l1, l2, some (.ref a), l4] st h = jv_ev call 148 100 [l0, l1, l2, some (.ref a), l4] (.ref a :: st) h := je_aload_n (r := some a) D148_99 rfl rfl
theorem E148_99r {call : jv_F} {l0 l1 l2 l4 : Option Value} {r : Option Nat} {st : List Value} {h : jv_H} : jv_ev call 148 99 [l0, l1, l2, some (va_rf r), l4] st h = jv_ev call 148 100 [l0, l1, l2, some (va_rf r), l4] (va_rf r :: st) h := je_aload_n (r := r) D148_99 rfl rfl
theorem D148_100 : decode (jt_code 148) 100 = .ok (.iload 4, 2) := by decide +kernel
theorem E148_100 {call : jv_F} {l0 l1 l2 l3 : Option Value} {x : Int32} {st : List Value} {h : jv_H} : jv_ev call 148 100 [l0, l1, l2, l3, some (.int x)] st h = jv_ev call 148 102 [l0, l1, l2, l3, some (.int x)] (.int x :: st) h := je_iload D148_100 rfl rfl
theorem D148_102 : decode (jt_code 148) 102 = .ok (.invokevirtual 320, 3) := by decide +kernel
theorem E148_102 {call : jv_F} {l0 l1 l2 l3 l4 : Option Value} {b : Nat} {v0 v1 : Value}  {st : List Value} {h : jv_H} (hw : jv_wide st = true) (hcl : jv_cl h b = some 2) (hc : (call 71 [.ref b, v0, v1] h).isSome = true) : jv_ev call 148 102 [l0, l1, l2, l3, l4] (v1 :: v0 :: .ref b :: st) h = jv_ev call 148 105 [l0, l1, l2, l3, l4] ((((call 71 [.ref b, v0, v1] h).getD (none, h)).1).toList ++ st) ((call 71 [.ref b, v0, v1] h).getD (none, h)).2 := by
  obtain ⟨⟨r, h'⟩, hv⟩ := Option.isSome_iff_exists.mp hc
  rw [hv]
  exact je_virt (y := 71) (as := [v0, v1]) D148_102 rfl (by decide) (by decide) rfl hcl hw hv
theorem D148_105 : decode (jt_code 148) 105 = .ok (.aload_n 3, 1) := by decide +kernel
theorem E148_105 {call : jv_F} {l0 l1 l2 l4 : Option Value} {a : Nat} {st : List Value} {h : jv_H} : jv_ev call 148 105 [l0, l1, l2, some (.ref a), l4] st h = jv_ev call 148 106 [l0, l1, l2, some (.ref a), l4] (.ref a :: st) h := je_aload_n (r := some a) D148_105 rfl rfl
theorem E148_105r {call : jv_F} {l0 l1 l2 l4 : Option Value} {r : Option Nat} {st : List Value} {h : jv_H} : jv_ev call 148 105 [l0, l1, l2, some (va_rf r), l4] st h = jv_ev call 148 106 [l0, l1, l2, some (va_rf r), l4] (va_rf r :: st) h := je_aload_n (r := r) D148_105 rfl rfl
theorem D148_106 : decode (jt_code 148) 106 = .ok (.iconst 1, 1) := by decide +kernel
theorem E148_106 {call : jv_F} {l0 l1 l2 l3 l4 : Option Value}  {st : List Value} {h : jv_H} : jv_ev call 148 106 [l0, l1, l2, l3, l4] st h = jv_ev call 148 107 [l0, l1, l2, l3, l4] (.int (nI 1) :: st) h := je_iconst D148_106 rfl (by decide)
theorem D148_107 : decode (jt_code 148) 107 = .ok (.putfield 170, 3) := by decide +kernel
theorem E148_107 {call : jv_F} {l0 l1 l2 l3 l4 : Option Value} {a : Nat} {v : Value} {st : List Value} {h : jv_H} (hs : (jv_pf h a 1 4 v).isSome = true) : jv_ev call 148 107 [l0, l1, l2, l3, l4] (v :: .ref a :: st) h = jv_ev call 148 110 [l0, l1, l2, l3, l4] st ((jv_pf h a 1 4 v).getD h) := by
  obtain ⟨h', hv⟩ := Option.isSome_iff_exists.mp hs
  rw [hv]
  exact je_put D148_107 rfl (by decide) (by decide) hv
theorem D148_110 : decode (jt_code 148) 110 = .ok (.aload_n 0, 1) := by decide +kernel
theorem E148_110 {call : jv_F} {l1 l2 l3 l4 : Option Value} {a : Nat} {st : List Value} {h : jv_H} : jv_ev call 148 110 [some (.ref a), l1, l2, l3, l4] st h = jv_ev call 148 111 [some (.ref a), l1, l2, l3, l4] (.ref a :: st) h := je_aload_n (r := some a) D148_110 rfl rfl
theorem D148_111 : decode (jt_code 148) 111 = .ok (.getfield 26, 3) := by decide +kernel
theorem E148_111 {call : jv_F} {l0 l1 l2 l3 l4 : Option Value} {a : Nat} {st : List Value} {h : jv_H} (hs : (jv_gf h a 6 2).isSome = true) : jv_ev call 148 111 [l0, l1, l2, l3, l4] (.ref a :: st) h = jv_ev call 148 114 [l0, l1, l2, l3, l4] ((jv_gf h a 6 2).getD .null :: st) h := by
  obtain ⟨v, hv⟩ := Option.isSome_iff_exists.mp hs
  rw [hv]
  exact je_get D148_111 rfl (by decide) hv
theorem D148_114 : decode (jt_code 148) 114 = .ok (.aload_n 3, 1) := by decide +kernel
theorem E148_114 {call : jv_F} {l0 l1 l2 l4 : Option Value} {a : Nat} {st : List Value} {h : jv_H} : jv_ev call 148 114 [l0, l1, l2, some (.ref a), l4] st h = jv_ev call 148 115 [l0, l1, l2, some (.ref a), l4] (.ref a :: st) h := je_aload_n (r := some a) D148_114 rfl rfl
theorem E148_114r {call : jv_F} {l0 l1 l2 l4 : Option Value} {r : Option Nat} {st : List Value} {h : jv_H} : jv_ev call 148 114 [l0, l1, l2, some (va_rf r), l4] st h = jv_ev call 148 115 [l0, l1, l2, some (va_rf r), l4] (va_rf r :: st) h := je_aload_n (r := r) D148_114 rfl rfl
theorem D148_115 : decode (jt_code 148) 115 = .ok (.invokevirtual 251, 3) := by decide +kernel
theorem E148_115 {call : jv_F} {l0 l1 l2 l3 l4 : Option Value} {b : Nat} {v0 : Value}  {st : List Value} {h : jv_H} (hw : jv_wide st = true) (hcl : jv_cl h b = some 3) (hc : (call 81 [.ref b, v0] h).isSome = true) : jv_ev call 148 115 [l0, l1, l2, l3, l4] (v0 :: .ref b :: st) h = jv_ev call 148 118 [l0, l1, l2, l3, l4] ((((call 81 [.ref b, v0] h).getD (none, h)).1).toList ++ st) ((call 81 [.ref b, v0] h).getD (none, h)).2 := by
  obtain ⟨⟨r, h'⟩, hv⟩ := Option.isSome_iff_exists.mp hc
  rw [hv]
  exact je_virt (y := 81) (as := [v0]) D148_115 rfl (by decide) (by decide) rfl hcl hw hv
theorem D148_118 : decode (jt_code 148) 118 = .ok (.aload_n 1, 1) := by decide +kernel
theorem E148_118 {call : jv_F} {l0 l2 l3 l4 : Option Value} {a : Nat} {st : List Value} {h : jv_H} : jv_ev call 148 118 [l0, some (.ref a), l2, l3, l4] st h = jv_ev call 148 119 [l0, some (.ref a), l2, l3, l4] (.ref a :: st) h := je_aload_n (r := some a) D148_118 rfl rfl
theorem E148_118r {call : jv_F} {l0 l2 l3 l4 : Option Value} {r : Option Nat} {st : List Value} {h : jv_H} : jv_ev call 148 118 [l0, some (va_rf r), l2, l3, l4] st h = jv_ev call 148 119 [l0, some (va_rf r), l2, l3, l4] (va_rf r :: st) h := je_aload_n (r := r) D148_118 rfl rfl
theorem D148_119 : decode (jt_code 148) 119 = .ok (.aload_n 3, 1) := by decide +kernel
theorem E148_119 {call : jv_F} {l0 l1 l2 l4 : Option Value} {a : Nat} {st : List Value} {h : jv_H} : jv_ev call 148 119 [l0, l1, l2, some (.ref a), l4] st h = jv_ev call 148 120 [l0, l1, l2, some (.ref a), l4] (.ref a :: st) h := je_aload_n (r := some a) D148_119 rfl rfl
theorem E148_119r {call : jv_F} {l0 l1 l2 l4 : Option Value} {r : Option Nat} {st : List Value} {h : jv_H} : jv_ev call 148 119 [l0, l1, l2, some (va_rf r), l4] st h = jv_ev call 148 120 [l0, l1, l2, some (va_rf r), l4] (va_rf r :: st) h := je_aload_n (r := r) D148_119 rfl rfl
theorem D148_120 : decode (jt_code 148) 120 = .ok (.putfield 324, 3) := by decide +kernel
theorem E148_120 {call : jv_F} {l0 l1 l2 l3 l4 : Option Value} {a : Nat} {v : Value} {st : List Value} {h : jv_H} (hs : (jv_pf h a 4 14 v).isSome = true) : jv_ev call 148 120 [l0, l1, l2, l3, l4] (v :: .ref a :: st) h = jv_ev call 148 123 [l0, l1, l2, l3, l4] st ((jv_pf h a 4 14 v).getD h) := by
  obtain ⟨h', hv⟩ := Option.isSome_iff_exists.mp hs
  rw [hv]
  exact je_put D148_120 rfl (by decide) (by decide) hv
theorem D148_123 : decode (jt_code 148) 123 = .ok (.iconst (-1), 1) := by decide +kernel
theorem E148_123 {call : jv_F} {l0 l1 l2 l3 l4 : Option Value}  {st : List Value} {h : jv_H} : jv_ev call 148 123 [l0, l1, l2, l3, l4] st h = jv_ev call 148 124 [l0, l1, l2, l3, l4] (.int (-1) :: st) h := je_iconst D148_123 rfl (by decide)
theorem D148_124 : decode (jt_code 148) 124 = .ok (.ireturn, 1) := by decide +kernel
theorem E148_124 {call : jv_F} {l0 l1 l2 l3 l4 : Option Value} {v : Int32} {h : jv_H} : jv_ev call 148 124 [l0, l1, l2, l3, l4] [.int v] h = some (some (.int v), h) := je_iret (ty := .int) D148_124 rfl rfl rfl
/-! method 149: DrumMachine.reachHeld -/
theorem N149 {d : Nat} {b : Nat} {a0 : Option Nat} {a1 : Option Nat} {h : jv_H} : jv_run (d + 1) 149 [.ref b, va_rf a0, va_rf a1] h = jv_ev (jv_run d) 149 0 [some (.ref b), some (va_rf a0), some (va_rf a1)] [] h := by
  cases a0 <;>
  cases a1 <;>
  exact jv_run_eq (Nat.le_of_ble_eq_true rfl) rfl
theorem D149_0 : decode (jt_code 149) 0 = .ok (.aload_n 2, 1) := by decide +kernel
theorem E149_0 {call : jv_F} {l0 l1 : Option Value} {a : Nat} {st : List Value} {h : jv_H} : jv_ev call 149 0 [l0, l1, some (.ref a)] st h = jv_ev call 149 1 [l0, l1, some (.ref a)] (.ref a :: st) h := je_aload_n (r := some a) D149_0 rfl rfl
theorem E149_0r {call : jv_F} {l0 l1 : Option Value} {r : Option Nat} {st : List Value} {h : jv_H} : jv_ev call 149 0 [l0, l1, some (va_rf r)] st h = jv_ev call 149 1 [l0, l1, some (va_rf r)] (va_rf r :: st) h := je_aload_n (r := r) D149_0 rfl rfl
theorem D149_1 : decode (jt_code 149) 1 = .ok (.getfield 170, 3) := by decide +kernel
theorem E149_1 {call : jv_F} {l0 l1 l2 : Option Value} {a : Nat} {st : List Value} {h : jv_H} (hs : (jv_gf h a 1 4).isSome = true) : jv_ev call 149 1 [l0, l1, l2] (.ref a :: st) h = jv_ev call 149 4 [l0, l1, l2] ((jv_gf h a 1 4).getD .null :: st) h := by
  obtain ⟨v, hv⟩ := Option.isSome_iff_exists.mp hs
  rw [hv]
  exact je_get D149_1 rfl (by decide) hv
theorem D149_4 : decode (jt_code 149) 4 = .ok (.ifCond .eq 10, 3) := by decide +kernel
theorem E149_4 {call : jv_F} {l0 l1 l2 : Option Value} {x : Int32} {st : List Value} {h : jv_H} : jv_ev call 149 4 [l0, l1, l2] (.int x :: st) h = if x = 0 then jv_ev call 149 14 [l0, l1, l2] st h else jv_ev call 149 7 [l0, l1, l2] st h := je_ifc D149_4 (by decide) rfl rfl
theorem D149_7 : decode (jt_code 149) 7 = .ok (.aload_n 1, 1) := by decide +kernel
theorem E149_7 {call : jv_F} {l0 l2 : Option Value} {a : Nat} {st : List Value} {h : jv_H} : jv_ev call 149 7 [l0, some (.ref a), l2] st h = jv_ev call 149 8 [l0, some (.ref a), l2] (.ref a :: st) h := je_aload_n (r := some a) D149_7 rfl rfl
theorem E149_7r {call : jv_F} {l0 l2 : Option Value} {r : Option Nat} {st : List Value} {h : jv_H} : jv_ev call 149 7 [l0, some (va_rf r), l2] st h = jv_ev call 149 8 [l0, some (va_rf r), l2] (va_rf r :: st) h := je_aload_n (r := r) D149_7 rfl rfl
theorem D149_8 : decode (jt_code 149) 8 = .ok (.aload_n 2, 1) := by decide +kernel
theorem E149_8 {call : jv_F} {l0 l1 : Option Value} {a : Nat} {st : List Value} {h : jv_H} : jv_ev call 149 8 [l0, l1, some (.ref a)] st h = jv_ev call 149 9 [l0, l1, some (.ref a)] (.ref a :: st) h := je_aload_n (r := some a) D149_8 rfl rfl
theorem E149_8r {call : jv_F} {l0 l1 : Option Value} {r : Option Nat} {st : List Value} {h : jv_H} : jv_ev call 149 8 [l0, l1, some (va_rf r)] st h = jv_ev call 149 9 [l0, l1, some (va_rf r)] (va_rf r :: st) h := je_aload_n (r := r) D149_8 rfl rfl
theorem D149_9 : decode (jt_code 149) 9 = .ok (.putfield 324, 3) := by decide +kernel
theorem E149_9 {call : jv_F} {l0 l1 l2 : Option Value} {a : Nat} {v : Value} {st : List Value} {h : jv_H} (hs : (jv_pf h a 4 14 v).isSome = true) : jv_ev call 149 9 [l0, l1, l2] (v :: .ref a :: st) h = jv_ev call 149 12 [l0, l1, l2] st ((jv_pf h a 4 14 v).getD h) := by
  obtain ⟨h', hv⟩ := Option.isSome_iff_exists.mp hs
  rw [hv]
  exact je_put D149_9 rfl (by decide) (by decide) hv
theorem D149_12 : decode (jt_code 149) 12 = .ok (.iconst (-1), 1) := by decide +kernel
theorem E149_12 {call : jv_F} {l0 l1 l2 : Option Value}  {st : List Value} {h : jv_H} : jv_ev call 149 12 [l0, l1, l2] st h = jv_ev call 149 13 [l0, l1, l2] (.int (-1) :: st) h := je_iconst D149_12 rfl (by decide)
theorem D149_13 : decode (jt_code 149) 13 = .ok (.ireturn, 1) := by decide +kernel
theorem E149_13 {call : jv_F} {l0 l1 l2 : Option Value} {v : Int32} {h : jv_H} : jv_ev call 149 13 [l0, l1, l2] [.int v] h = some (some (.int v), h) := je_iret (ty := .int) D149_13 rfl rfl rfl
theorem D149_14 : decode (jt_code 149) 14 = .ok (.iconst 0, 1) := by decide +kernel
theorem E149_14 {call : jv_F} {l0 l1 l2 : Option Value}  {st : List Value} {h : jv_H} : jv_ev call 149 14 [l0, l1, l2] st h = jv_ev call 149 15 [l0, l1, l2] (.int (nI 0) :: st) h := je_iconst D149_14 rfl (by decide)
theorem D149_15 : decode (jt_code 149) 15 = .ok (.ireturn, 1) := by decide +kernel
theorem E149_15 {call : jv_F} {l0 l1 l2 : Option Value} {v : Int32} {h : jv_H} : jv_ev call 149 15 [l0, l1, l2] [.int v] h = some (some (.int v), h) := je_iret (ty := .int) D149_15 rfl rfl rfl
/-! method 150: DrumMachine.createBlock -/
theorem N150 {d : Nat} {b : Nat} {a0 : Option Nat} {a1 : Int32} {h : jv_H} : jv_run (d + 1) 150 [.ref b, va_rf a0, .int a1] h = jv_ev (jv_run d) 150 0 [some (.ref b), some (va_rf a0), some (.int a1), none] [] h := by
  cases a0 <;>
  exact jv_run_eq (Nat.le_of_ble_eq_true rfl) rfl
theorem D150_0 : decode (jt_code 150) 0 = .ok (.new 164, 3) := by decide +kernel
theorem E150_0 {call : jv_F} {l0 l1 l2 l3 : Option Value}  {st : List Value} {h : jv_H} : jv_ev call 150 0 [l0, l1, l2, l3] st h = jv_ev call 150 3 [l0, l1, l2, l3] (.ref h.2.1 :: st) (jv_new h 1) := je_new D150_0 rfl (by decide) (by decide)
theorem D150_3 : decode (jt_code 150) 3 = .ok (.dup, 1) := by decide +kernel
theorem E150_3 {call : jv_F} {l0 l1 l2 l3 : Option Value} {a : Nat} {st : List Value} {h : jv_H} : jv_ev call 150 3 [l0, l1, l2, l3] (.ref a :: st) h = jv_ev call 150 4 [l0, l1, l2, l3] (.ref a :: .ref a :: st) h := je_dup D150_3 rfl rfl
theorem E150_3i {call : jv_F} {l0 l1 l2 l3 : Option Value} {x : Int32} {st : List Value} {h : jv_H} : jv_ev call 150 3 [l0, l1, l2, l3] (.int x :: st) h = jv_ev call 150 4 [l0, l1, l2, l3] (.int x :: .int x :: st) h := je_dup D150_3 rfl rfl
theorem D150_4 : decode (jt_code 150) 4 = .ok (.aload_n 1, 1) := by decide +kernel
theorem E150_4 {call : jv_F} {l0 l2 l3 : Option Value} {a : Nat} {st : List Value} {h : jv_H} : jv_ev call 150 4 [l0, some (.ref a), l2, l3] st h = jv_ev call 150 5 [l0, some (.ref a), l2, l3] (.ref a :: st) h := je_aload_n (r := some a) D150_4 rfl rfl
theorem E150_4r {call : jv_F} {l0 l2 l3 : Option Value} {r : Option Nat} {st : List Value} {h : jv_H} : jv_ev call 150 4 [l0, some (va_rf r), l2, l3] st h = jv_ev call 150 5 [l0, some (va_rf r), l2, l3] (va_rf r :: st) h := je_aload_n (r := r) D150_4 rfl rfl
theorem D150_5 : decode (jt_code 150) 5 = .ok (.iload_n 2, 1) := by decide +kernel
theorem E150_5 {call : jv_F} {l0 l1 l3 : Option Value} {x : Int32} {st : List Value} {h : jv_H} : jv_ev call 150 5 [l0, l1, some (.int x), l3] st h = jv_ev call 150 6 [l0, l1, some (.int x), l3] (.int x :: st) h := je_iload_n D150_5 rfl rfl
theorem D150_6 : decode (jt_code 150) 6 = .ok (.invokespecial 328, 3) := by decide +kernel
theorem E150_6 {call : jv_F} {l0 l1 l2 l3 : Option Value} {b : Nat} {v0 v1 : Value}  {st : List Value} {h : jv_H} (hw : jv_wide st = true) (hc : (call 60 [.ref b, v0, v1] h).isSome = true) : jv_ev call 150 6 [l0, l1, l2, l3] (v1 :: v0 :: .ref b :: st) h = jv_ev call 150 9 [l0, l1, l2, l3] ((((call 60 [.ref b, v0, v1] h).getD (none, h)).1).toList ++ st) ((call 60 [.ref b, v0, v1] h).getD (none, h)).2 := by
  obtain ⟨⟨r, h'⟩, hv⟩ := Option.isSome_iff_exists.mp hc
  rw [hv]
  exact je_spec (y := 60) (as := [v0, v1]) D150_6 rfl (by decide) (by decide) (by decide) rfl hw hv
theorem D150_9 : decode (jt_code 150) 9 = .ok (.astore_n 3, 1) := by decide +kernel
theorem E150_9 {call : jv_F} {l0 l1 l2 l3 : Option Value} {a : Nat} {st : List Value} {h : jv_H} (hk : ¬ jv_is2 (some l2) = true) : jv_ev call 150 9 [l0, l1, l2, l3] (.ref a :: st) h = jv_ev call 150 10 [l0, l1, l2, some (.ref a)] st h := je_astore_n (r := some a) D150_9 rfl (Nat.le_of_ble_eq_true rfl) (by show jv_st1 _ 3 _ = _; simp only [jv_st1, jv_kill, List.getElem?_cons_succ, List.getElem?_cons_zero, hk, if_false]; rfl)
theorem E150_9r {call : jv_F} {l0 l1 l2 l3 : Option Value} {r : Option Nat} {st : List Value} {h : jv_H} (hk : ¬ jv_is2 (some l2) = true) : jv_ev call 150 9 [l0, l1, l2, l3] (va_rf r :: st) h = jv_ev call 150 10 [l0, l1, l2, some (va_rf r)] st h := je_astore_n (r := r) D150_9 rfl (Nat.le_of_ble_eq_true rfl) (by show jv_st1 _ 3 _ = _; simp only [jv_st1, jv_kill, List.getElem?_cons_succ, List.getElem?_cons_zero, hk, if_false]; rfl)
theorem D150_10 : decode (jt_code 150) 10 = .ok (.aload_n 1, 1) := by decide +kernel
theorem E150_10 {call : jv_F} {l0 l2 l3 : Option Value} {a : Nat} {st : List Value} {h : jv_H} : jv_ev call 150 10 [l0, some (.ref a), l2, l3] st h = jv_ev call 150 11 [l0, some (.ref a), l2, l3] (.ref a :: st) h := je_aload_n (r := some a) D150_10 rfl rfl
theorem E150_10r {call : jv_F} {l0 l2 l3 : Option Value} {r : Option Nat} {st : List Value} {h : jv_H} : jv_ev call 150 10 [l0, some (va_rf r), l2, l3] st h = jv_ev call 150 11 [l0, some (va_rf r), l2, l3] (va_rf r :: st) h := je_aload_n (r := r) D150_10 rfl rfl
theorem D150_11 : decode (jt_code 150) 11 = .ok (.iload_n 2, 1) := by decide +kernel
theorem E150_11 {call : jv_F} {l0 l1 l3 : Option Value} {x : Int32} {st : List Value} {h : jv_H} : jv_ev call 150 11 [l0, l1, some (.int x), l3] st h = jv_ev call 150 12 [l0, l1, some (.int x), l3] (.int x :: st) h := je_iload_n D150_11 rfl rfl
theorem D150_12 : decode (jt_code 150) 12 = .ok (.aload_n 3, 1) := by decide +kernel
theorem E150_12 {call : jv_F} {l0 l1 l2 : Option Value} {a : Nat} {st : List Value} {h : jv_H} : jv_ev call 150 12 [l0, l1, l2, some (.ref a)] st h = jv_ev call 150 13 [l0, l1, l2, some (.ref a)] (.ref a :: st) h := je_aload_n (r := some a) D150_12 rfl rfl
theorem E150_12r {call : jv_F} {l0 l1 l2 : Option Value} {r : Option Nat} {st : List Value} {h : jv_H} : jv_ev call 150 12 [l0, l1, l2, some (va_rf r)] st h = jv_ev call 150 13 [l0, l1, l2, some (va_rf r)] (va_rf r :: st) h := je_aload_n (r := r) D150_12 rfl rfl
theorem D150_13 : decode (jt_code 150) 13 = .ok (.invokevirtual 330, 3) := by decide +kernel
theorem E150_13 {call : jv_F} {l0 l1 l2 l3 : Option Value} {b : Nat} {v0 v1 : Value}  {st : List Value} {h : jv_H} (hw : jv_wide st = true) (hcl : jv_cl h b = some 4) (hc : (call 96 [.ref b, v0, v1] h).isSome = true) : jv_ev call 150 13 [l0, l1, l2, l3] (v1 :: v0 :: .ref b :: st) h = jv_ev call 150 16 [l0, l1, l2, l3] ((((call 96 [.ref b, v0, v1] h).getD (none, h)).1).toList ++ st) ((call 96 [.ref b, v0, v1] h).getD (none, h)).2 := by
  obtain ⟨⟨r, h'⟩, hv⟩ := Option.isSome_iff_exists.mp hc
  rw [hv]
  exact je_virt (y := 96) (as := [v0, v1]) D150_13 rfl (by decide) (by decide) rfl hcl hw hv
theorem D150_16 : decode (jt_code 150) 16 = .ok (.aload_n 0, 1) := by decide +kernel
theorem E150_16 {call : jv_F} {l1 l2 l3 : Option Value} {a : Nat} {st : List Value} {h : jv_H} : jv_ev call 150 16 [some (.ref a), l1, l2, l3] st h = jv_ev call 150 17 [some (.ref a), l1, l2, l3] (.ref a :: st) h := je_aload_n (r := some a) D150_16 rfl rfl
theorem D150_17 : decode (jt_code 150) 17 = .ok (.dup, 1) := by decide +kernel
theorem E150_17 {call : jv_F} {l0 l1 l2 l3 : Option Value} {a : Nat} {st : List Value} {h : jv_H} : jv_ev call 150 17 [l0, l1, l2, l3] (.ref a :: st) h = jv_ev call 150 18 [l0, l1, l2, l3] (.ref a :: .ref a :: st) h := je_dup D150_17 rfl rfl
theorem E150_17i {call : jv_F} {l0 l1 l2 l3 : Option Value} {x : Int32} {st : List Value} {h : jv_H} : jv_ev call 150 17 [l0, l1, l2, l3] (.int x :: st) h = jv_ev call 150 18 [l0, l1, l2, l3] (.int x :: .int x :: st) h := je_dup D150_17 rfl rfl
theorem D150_18 : decode (jt_code 150) 18 = .ok (.getfield 43, 3) := by decide +kernel
theorem E150_18 {call : jv_F} {l0 l1 l2 l3 : Option Value} {a : Nat} {st : List Value} {h : jv_H} (hs : (jv_gf h a 6 6).isSome = true) : jv_ev call 150 18 [l0, l1, l2, l3] (.ref a :: st) h = jv_ev call 150 21 [l0, l1, l2, l3] ((jv_gf h a 6 6).getD .null :: st) h := by
  obtain ⟨v, hv⟩ := Option.isSome_iff_exists.mp hs
  rw [hv]
  exact je_get D150_18 rfl (by decide) hv
theorem D150_21 : decode (jt_code 150) 21 = .ok (.iconst 1, 1) := by decide +kernel
theorem E150_21 {call : jv_F} {l0 l1 l2 l3 : Option Value}  {st : List Value} {h : jv_H} : jv_ev call 150 21 [l0, l1, l2, l3] st h = jv_ev call 150 22 [l0, l1, l2, l3] (.int (nI 1) :: st) h := je_iconst D150_21 rfl (by decide)
theorem D150_22 : decode (jt_code 150) 22 = .ok (.iadd, 1) := by decide +kernel
theorem E150_22 {call : jv_F} {l0 l1 l2 l3 : Option Value} {x y : Int32} {st : List Value} {h : jv_H} : jv_ev call 150 22 [l0, l1, l2, l3] (.int y :: .int x :: st) h = jv_ev call 150 23 [l0, l1, l2, l3] (.int (x + y) :: st) h := je_b2 (f := fun x y => x + y) D150_22 rfl (fun _ => rfl)
theorem D150_23 : decode (jt_code 150) 23 = .ok (.putfield 43, 3) := by decide +kernel
theorem E150_23 {call : jv_F} {l0 l1 l2 l3 : Option Value} {a : Nat} {v : Value} {st : List Value} {h : jv_H} (hs : (jv_pf h a 6 6 v).isSome = true) : jv_ev call 150 23 [l0, l1, l2, l3] (v :: .ref a :: st) h = jv_ev call 150 26 [l0, l1, l2, l3] st ((jv_pf h a 6 6 v).getD h) := by
  obtain ⟨h', hv⟩ := Option.isSome_iff_exists.mp hs
  rw [hv]
  exact je_put D150_23 rfl (by decide) (by decide) hv
theorem D150_26 : decode (jt_code 150) 26 = .ok (.aload_n 3, 1) := by decide +kernel
theorem E150_26 {call : jv_F} {l0 l1 l2 : Option Value} {a : Nat} {st : List Value} {h : jv_H} : jv_ev call 150 26 [l0, l1, l2, some (.ref a)] st h = jv_ev call 150 27 [l0, l1, l2, some (.ref a)] (.ref a :: st) h := je_aload_n (r := some a) D150_26 rfl rfl
theorem E150_26r {call : jv_F} {l0 l1 l2 : Option Value} {r : Option Nat} {st : List Value} {h : jv_H} : jv_ev call 150 26 [l0, l1, l2, some (va_rf r)] st h = jv_ev call 150 27 [l0, l1, l2, some (va_rf r)] (va_rf r :: st) h := je_aload_n (r := r) D150_26 rfl rfl
theorem D150_27 : decode (jt_code 150) 27 = .ok (.areturn, 1) := by decide +kernel
theorem E150_27r {call : jv_F} {l0 l1 l2 l3 : Option Value} {r : Option Nat} {h : jv_H} : jv_ev call 150 27 [l0, l1, l2, l3] [va_rf r] h = some (some (va_rf r), h) := je_aret D150_27 rfl
theorem E150_27 {call : jv_F} {l0 l1 l2 l3 : Option Value} {a : Nat} {h : jv_H} : jv_ev call 150 27 [l0, l1, l2, l3] [.ref a] h = some (some (.ref a), h) := je_aret (r := some a) D150_27 rfl
theorem E150_27n {call : jv_F} {l0 l1 l2 l3 : Option Value}  {h : jv_H} : jv_ev call 150 27 [l0, l1, l2, l3] [.null] h = some (some .null, h) := je_aret (r := none) D150_27 rfl
/-! method 151: DrumMachine.endJob -/
theorem N151 {d : Nat} {b : Nat} {a0 : Option Nat} {a1 : Int32} {h : jv_H} : jv_run (d + 1) 151 [.ref b, va_rf a0, .int a1] h = jv_ev (jv_run d) 151 0 [some (.ref b), some (va_rf a0), some (.int a1), none, none] [] h := by
  cases a0 <;>
  exact jv_run_eq (Nat.le_of_ble_eq_true rfl) rfl
theorem D151_0 : decode (jt_code 151) 0 = .ok (.aload_n 1, 1) := by decide +kernel
theorem E151_0 {call : jv_F} {l0 l2 l3 l4 : Option Value} {a : Nat} {st : List Value} {h : jv_H} : jv_ev call 151 0 [l0, some (.ref a), l2, l3, l4] st h = jv_ev call 151 1 [l0, some (.ref a), l2, l3, l4] (.ref a :: st) h := je_aload_n (r := some a) D151_0 rfl rfl
theorem E151_0r {call : jv_F} {l0 l2 l3 l4 : Option Value} {r : Option Nat} {st : List Value} {h : jv_H} : jv_ev call 151 0 [l0, some (va_rf r), l2, l3, l4] st h = jv_ev call 151 1 [l0, some (va_rf r), l2, l3, l4] (va_rf r :: st) h := je_aload_n (r := r) D151_0 rfl rfl
theorem D151_1 : decode (jt_code 151) 1 = .ok (.iload_n 2, 1) := by decide +kernel
theorem E151_1 {call : jv_F} {l0 l1 l3 l4 : Option Value} {x : Int32} {st : List Value} {h : jv_H} : jv_ev call 151 1 [l0, l1, some (.int x), l3, l4] st h = jv_ev call 151 2 [l0, l1, some (.int x), l3, l4] (.int x :: st) h := je_iload_n D151_1 rfl rfl
theorem D151_2 : decode (jt_code 151) 2 = .ok (.putfield 113, 3) := by decide +kernel
theorem E151_2 {call : jv_F} {l0 l1 l2 l3 l4 : Option Value} {a : Nat} {v : Value} {st : List Value} {h : jv_H} (hs : (jv_pf h a 4 12 v).isSome = true) : jv_ev call 151 2 [l0, l1, l2, l3, l4] (v :: .ref a :: st) h = jv_ev call 151 5 [l0, l1, l2, l3, l4] st ((jv_pf h a 4 12 v).getD h) := by
  obtain ⟨h', hv⟩ := Option.isSome_iff_exists.mp hs
  rw [hv]
  exact je_put D151_2 rfl (by decide) (by decide) hv
theorem D151_5 : decode (jt_code 151) 5 = .ok (.aload_n 0, 1) := by decide +kernel
theorem E151_5 {call : jv_F} {l1 l2 l3 l4 : Option Value} {a : Nat} {st : List Value} {h : jv_H} : jv_ev call 151 5 [some (.ref a), l1, l2, l3, l4] st h = jv_ev call 151 6 [some (.ref a), l1, l2, l3, l4] (.ref a :: st) h := je_aload_n (r := some a) D151_5 rfl rfl
theorem D151_6 : decode (jt_code 151) 6 = .ok (.dup, 1) := by decide +kernel
theorem E151_6 {call : jv_F} {l0 l1 l2 l3 l4 : Option Value} {a : Nat} {st : List Value} {h : jv_H} : jv_ev call 151 6 [l0, l1, l2, l3, l4] (.ref a :: st) h = jv_ev call 151 7 [l0, l1, l2, l3, l4] (.ref a :: .ref a :: st) h := je_dup D151_6 rfl rfl
theorem E151_6i {call : jv_F} {l0 l1 l2 l3 l4 : Option Value} {x : Int32} {st : List Value} {h : jv_H} : jv_ev call 151 6 [l0, l1, l2, l3, l4] (.int x :: st) h = jv_ev call 151 7 [l0, l1, l2, l3, l4] (.int x :: .int x :: st) h := je_dup D151_6 rfl rfl
theorem D151_7 : decode (jt_code 151) 7 = .ok (.getfield 40, 3) := by decide +kernel
theorem E151_7 {call : jv_F} {l0 l1 l2 l3 l4 : Option Value} {a : Nat} {st : List Value} {h : jv_H} (hs : (jv_gf h a 6 5).isSome = true) : jv_ev call 151 7 [l0, l1, l2, l3, l4] (.ref a :: st) h = jv_ev call 151 10 [l0, l1, l2, l3, l4] ((jv_gf h a 6 5).getD .null :: st) h := by
  obtain ⟨v, hv⟩ := Option.isSome_iff_exists.mp hs
  rw [hv]
  exact je_get D151_7 rfl (by decide) hv
theorem D151_10 : decode (jt_code 151) 10 = .ok (.iconst 1, 1) := by decide +kernel
theorem E151_10 {call : jv_F} {l0 l1 l2 l3 l4 : Option Value}  {st : List Value} {h : jv_H} : jv_ev call 151 10 [l0, l1, l2, l3, l4] st h = jv_ev call 151 11 [l0, l1, l2, l3, l4] (.int (nI 1) :: st) h := je_iconst D151_10 rfl (by decide)
theorem D151_11 : decode (jt_code 151) 11 = .ok (.isub, 1) := by decide +kernel
theorem E151_11 {call : jv_F} {l0 l1 l2 l3 l4 : Option Value} {x y : Int32} {st : List Value} {h : jv_H} : jv_ev call 151 11 [l0, l1, l2, l3, l4] (.int y :: .int x :: st) h = jv_ev call 151 12 [l0, l1, l2, l3, l4] (.int (x - y) :: st) h := je_b2 (f := fun x y => x - y) D151_11 rfl (fun _ => rfl)
theorem D151_12 : decode (jt_code 151) 12 = .ok (.putfield 40, 3) := by decide +kernel
theorem E151_12 {call : jv_F} {l0 l1 l2 l3 l4 : Option Value} {a : Nat} {v : Value} {st : List Value} {h : jv_H} (hs : (jv_pf h a 6 5 v).isSome = true) : jv_ev call 151 12 [l0, l1, l2, l3, l4] (v :: .ref a :: st) h = jv_ev call 151 15 [l0, l1, l2, l3, l4] st ((jv_pf h a 6 5 v).getD h) := by
  obtain ⟨h', hv⟩ := Option.isSome_iff_exists.mp hs
  rw [hv]
  exact je_put D151_12 rfl (by decide) (by decide) hv
theorem D151_15 : decode (jt_code 151) 15 = .ok (.iconst 0, 1) := by decide +kernel
theorem E151_15 {call : jv_F} {l0 l1 l2 l3 l4 : Option Value}  {st : List Value} {h : jv_H} : jv_ev call 151 15 [l0, l1, l2, l3, l4] st h = jv_ev call 151 16 [l0, l1, l2, l3, l4] (.int (nI 0) :: st) h := je_iconst D151_15 rfl (by decide)
theorem D151_16 : decode (jt_code 151) 16 = .ok (.istore_n 3, 1) := by decide +kernel
theorem E151_16 {call : jv_F} {l0 l1 l2 l3 l4 : Option Value} {x : Int32} {st : List Value} {h : jv_H} (hk : ¬ jv_is2 (some l2) = true) : jv_ev call 151 16 [l0, l1, l2, l3, l4] (.int x :: st) h = jv_ev call 151 17 [l0, l1, l2, some (.int x), l4] st h := je_istore_n D151_16 rfl (Nat.le_of_ble_eq_true rfl) (by show jv_st1 _ 3 _ = _; simp only [jv_st1, jv_kill, List.getElem?_cons_succ, List.getElem?_cons_zero, hk, if_false]; rfl)
theorem D151_17 : decode (jt_code 151) 17 = .ok (.iload_n 3, 1) := by decide +kernel
theorem E151_17 {call : jv_F} {l0 l1 l2 l4 : Option Value} {x : Int32} {st : List Value} {h : jv_H} : jv_ev call 151 17 [l0, l1, l2, some (.int x), l4] st h = jv_ev call 151 18 [l0, l1, l2, some (.int x), l4] (.int x :: st) h := je_iload_n D151_17 rfl rfl
theorem D151_18 : decode (jt_code 151) 18 = .ok (.bipush 64, 2) := by decide +kernel
theorem E151_18 {call : jv_F} {l0 l1 l2 l3 l4 : Option Value}  {st : List Value} {h : jv_H} : jv_ev call 151 18 [l0, l1, l2, l3, l4] st h = jv_ev call 151 20 [l0, l1, l2, l3, l4] (.int (nI 64) :: st) h := je_bipush D151_18 rfl (by decide)
theorem D151_20 : decode (jt_code 151) 20 = .ok (.if_icmp .ge 49, 3) := by decide +kernel
theorem E151_20 {call : jv_F} {l0 l1 l2 l3 l4 : Option Value} {x y : Int32} {st : List Value} {h : jv_H} : jv_ev call 151 20 [l0, l1, l2, l3, l4] (.int y :: .int x :: st) h = if y ≤ x then jv_ev call 151 69 [l0, l1, l2, l3, l4] st h else jv_ev call 151 23 [l0, l1, l2, l3, l4] st h := je_icmp D151_20 (by decide) rfl rfl
theorem D151_23 : decode (jt_code 151) 23 = .ok (.aload_n 1, 1) := by decide +kernel
theorem E151_23 {call : jv_F} {l0 l2 l3 l4 : Option Value} {a : Nat} {st : List Value} {h : jv_H} : jv_ev call 151 23 [l0, some (.ref a), l2, l3, l4] st h = jv_ev call 151 24 [l0, some (.ref a), l2, l3, l4] (.ref a :: st) h := je_aload_n (r := some a) D151_23 rfl rfl
theorem E151_23r {call : jv_F} {l0 l2 l3 l4 : Option Value} {r : Option Nat} {st : List Value} {h : jv_H} : jv_ev call 151 23 [l0, some (va_rf r), l2, l3, l4] st h = jv_ev call 151 24 [l0, some (va_rf r), l2, l3, l4] (va_rf r :: st) h := je_aload_n (r := r) D151_23 rfl rfl
theorem D151_24 : decode (jt_code 151) 24 = .ok (.getfield 334, 3) := by decide +kernel
theorem E151_24 {call : jv_F} {l0 l1 l2 l3 l4 : Option Value} {a : Nat} {st : List Value} {h : jv_H} (hs : (jv_gf h a 4 6).isSome = true) : jv_ev call 151 24 [l0, l1, l2, l3, l4] (.ref a :: st) h = jv_ev call 151 27 [l0, l1, l2, l3, l4] ((jv_gf h a 4 6).getD .null :: st) h := by
  obtain ⟨v, hv⟩ := Option.isSome_iff_exists.mp hs
  rw [hv]
  exact je_get D151_24 rfl (by decide) hv
theorem D151_27 : decode (jt_code 151) 27 = .ok (.iload_n 3, 1) := by decide +kernel
theorem E151_27 {call : jv_F} {l0 l1 l2 l4 : Option Value} {x : Int32} {st : List Value} {h : jv_H} : jv_ev call 151 27 [l0, l1, l2, some (.int x), l4] st h = jv_ev call 151 28 [l0, l1, l2, some (.int x), l4] (.int x :: st) h := je_iload_n D151_27 rfl rfl
theorem D151_28 : decode (jt_code 151) 28 = .ok (.aaload, 1) := by decide +kernel
theorem E151_28 {call : jv_F} {l0 l1 l2 l3 l4 : Option Value} {a : Nat} {j : Int32} {C : String} {st : List Value} {h : jv_H} (hC : jv_kn h a = some C) (hs : (jv_al h a (.object C) j).isSome = true) : jv_ev call 151 28 [l0, l1, l2, l3, l4] (.int j :: .ref a :: st) h = jv_ev call 151 29 [l0, l1, l2, l3, l4] ((jv_al h a (.object C) j).getD .null :: st) h := by
  obtain ⟨v, hv⟩ := Option.isSome_iff_exists.mp hs
  rw [hv]
  exact je_aald D151_28 rfl hC hv
theorem D151_29 : decode (jt_code 151) 29 = .ok (.astore 4, 2) := by decide +kernel
theorem E151_29 {call : jv_F} {l0 l1 l2 l3 l4 : Option Value} {a : Nat} {st : List Value} {h : jv_H} (hk : ¬ jv_is2 (some l3) = true) : jv_ev call 151 29 [l0, l1, l2, l3, l4] (.ref a :: st) h = jv_ev call 151 31 [l0, l1, l2, l3, some (.ref a)] st h := je_astore (r := some a) D151_29 rfl (Nat.le_of_ble_eq_true rfl) (by show jv_st1 _ 4 _ = _; simp only [jv_st1, jv_kill, List.getElem?_cons_succ, List.getElem?_cons_zero, hk, if_false]; rfl)
theorem E151_29r {call : jv_F} {l0 l1 l2 l3 l4 : Option Value} {r : Option Nat} {st : List Value} {h : jv_H} (hk : ¬ jv_is2 (some l3) = true) : jv_ev call 151 29 [l0, l1, l2, l3, l4] (va_rf r :: st) h = jv_ev call 151 31 [l0, l1, l2, l3, some (va_rf r)] st h := je_astore (r := r) D151_29 rfl (Nat.le_of_ble_eq_true rfl) (by show jv_st1 _ 4 _ = _; simp only [jv_st1, jv_kill, List.getElem?_cons_succ, List.getElem?_cons_zero, hk, if_false]; rfl)
theorem D151_31 : decode (jt_code 151) 31 = .ok (.aload 4, 2) := by decide +kernel
theorem E151_31 {call : jv_F} {l0 l1 l2 l3 : Option Value} {a : Nat} {st : List Value} {h : jv_H} : jv_ev call 151 31 [l0, l1, l2, l3, some (.ref a)] st h = jv_ev call 151 33 [l0, l1, l2, l3, some (.ref a)] (.ref a :: st) h := je_aload (r := some a) D151_31 rfl rfl
theorem E151_31r {call : jv_F} {l0 l1 l2 l3 : Option Value} {r : Option Nat} {st : List Value} {h : jv_H} : jv_ev call 151 31 [l0, l1, l2, l3, some (va_rf r)] st h = jv_ev call 151 33 [l0, l1, l2, l3, some (va_rf r)] (va_rf r :: st) h := je_aload (r := r) D151_31 rfl rfl
theorem D151_33 : decode (jt_code 151) 33 = .ok (.ifnull 30, 3) := by decide +kernel
theorem E151_33r {call : jv_F} {l0 l1 l2 l3 l4 : Option Value} {x : Option Nat} {st : List Value} {h : jv_H} : jv_ev call 151 33 [l0, l1, l2, l3, l4] (va_rf x :: st) h = if x = none then jv_ev call 151 63 [l0, l1, l2, l3, l4] st h else jv_ev call 151 36 [l0, l1, l2, l3, l4] st h := je_ifnull D151_33 (by decide) rfl
theorem E151_33 {call : jv_F} {l0 l1 l2 l3 l4 : Option Value} {x : Nat} {st : List Value} {h : jv_H} : jv_ev call 151 33 [l0, l1, l2, l3, l4] (.ref x :: st) h = jv_ev call 151 36 [l0, l1, l2, l3, l4] st h := (je_ifnull (x := some x) (t := 63) D151_33 (by decide) rfl).trans (if_neg (by simp))
theorem D151_36 : decode (jt_code 151) 36 = .ok (.aload 4, 2) := by decide +kernel
theorem E151_36 {call : jv_F} {l0 l1 l2 l3 : Option Value} {a : Nat} {st : List Value} {h : jv_H} : jv_ev call 151 36 [l0, l1, l2, l3, some (.ref a)] st h = jv_ev call 151 38 [l0, l1, l2, l3, some (.ref a)] (.ref a :: st) h := je_aload (r := some a) D151_36 rfl rfl
theorem E151_36r {call : jv_F} {l0 l1 l2 l3 : Option Value} {r : Option Nat} {st : List Value} {h : jv_H} : jv_ev call 151 36 [l0, l1, l2, l3, some (va_rf r)] st h = jv_ev call 151 38 [l0, l1, l2, l3, some (va_rf r)] (va_rf r :: st) h := je_aload (r := r) D151_36 rfl rfl
theorem D151_38 : decode (jt_code 151) 38 = .ok (.aload_n 0, 1) := by decide +kernel
theorem E151_38 {call : jv_F} {l1 l2 l3 l4 : Option Value} {a : Nat} {st : List Value} {h : jv_H} : jv_ev call 151 38 [some (.ref a), l1, l2, l3, l4] st h = jv_ev call 151 39 [some (.ref a), l1, l2, l3, l4] (.ref a :: st) h := je_aload_n (r := some a) D151_38 rfl rfl
theorem D151_39 : decode (jt_code 151) 39 = .ok (.getfield 26, 3) := by decide +kernel
theorem E151_39 {call : jv_F} {l0 l1 l2 l3 l4 : Option Value} {a : Nat} {st : List Value} {h : jv_H} (hs : (jv_gf h a 6 2).isSome = true) : jv_ev call 151 39 [l0, l1, l2, l3, l4] (.ref a :: st) h = jv_ev call 151 42 [l0, l1, l2, l3, l4] ((jv_gf h a 6 2).getD .null :: st) h := by
  obtain ⟨v, hv⟩ := Option.isSome_iff_exists.mp hs
  rw [hv]
  exact je_get D151_39 rfl (by decide) hv
theorem D151_42 : decode (jt_code 151) 42 = .ok (.getfield 338, 3) := by decide +kernel
theorem E151_42 {call : jv_F} {l0 l1 l2 l3 l4 : Option Value} {a : Nat} {st : List Value} {h : jv_H} (hs : (jv_gf h a 3 3).isSome = true) : jv_ev call 151 42 [l0, l1, l2, l3, l4] (.ref a :: st) h = jv_ev call 151 45 [l0, l1, l2, l3, l4] ((jv_gf h a 3 3).getD .null :: st) h := by
  obtain ⟨v, hv⟩ := Option.isSome_iff_exists.mp hs
  rw [hv]
  exact je_get D151_42 rfl (by decide) hv
theorem D151_45 : decode (jt_code 151) 45 = .ok (.if_acmp .eq 18, 3) := by decide +kernel
theorem E151_45 {call : jv_F} {l0 l1 l2 l3 l4 : Option Value} {x y : Option Nat} {st : List Value} {h : jv_H} : jv_ev call 151 45 [l0, l1, l2, l3, l4] (va_rf y :: va_rf x :: st) h = if x = y then jv_ev call 151 63 [l0, l1, l2, l3, l4] st h else jv_ev call 151 48 [l0, l1, l2, l3, l4] st h := je_acmp_eq D151_45 (by decide) rfl
theorem E151_45f {call : jv_F} {l0 l1 l2 l3 l4 : Option Value} {x : Option Nat} {y : Nat} {st : List Value} {h : jv_H} : jv_ev call 151 45 [l0, l1, l2, l3, l4] (.ref y :: va_rf x :: st) h = if x = some y then jv_ev call 151 63 [l0, l1, l2, l3, l4] st h else jv_ev call 151 48 [l0, l1, l2, l3, l4] st h := je_acmp_eq (y := some y) D151_45 (by decide) rfl
theorem E151_45g {call : jv_F} {l0 l1 l2 l3 l4 : Option Value} {x : Nat} {y : Option Nat} {st : List Value} {h : jv_H} : jv_ev call 151 45 [l0, l1, l2, l3, l4] (va_rf y :: .ref x :: st) h = if some x = y then jv_ev call 151 63 [l0, l1, l2, l3, l4] st h else jv_ev call 151 48 [l0, l1, l2, l3, l4] st h := je_acmp_eq (x := some x) D151_45 (by decide) rfl
theorem D151_48 : decode (jt_code 151) 48 = .ok (.aload_n 0, 1) := by decide +kernel
theorem E151_48 {call : jv_F} {l1 l2 l3 l4 : Option Value} {a : Nat} {st : List Value} {h : jv_H} : jv_ev call 151 48 [some (.ref a), l1, l2, l3, l4] st h = jv_ev call 151 49 [some (.ref a), l1, l2, l3, l4] (.ref a :: st) h := je_aload_n (r := some a) D151_48 rfl rfl
theorem D151_49 : decode (jt_code 151) 49 = .ok (.getfield 26, 3) := by decide +kernel
theorem E151_49 {call : jv_F} {l0 l1 l2 l3 l4 : Option Value} {a : Nat} {st : List Value} {h : jv_H} (hs : (jv_gf h a 6 2).isSome = true) : jv_ev call 151 49 [l0, l1, l2, l3, l4] (.ref a :: st) h = jv_ev call 151 52 [l0, l1, l2, l3, l4] ((jv_gf h a 6 2).getD .null :: st) h := by
  obtain ⟨v, hv⟩ := Option.isSome_iff_exists.mp hs
  rw [hv]
  exact je_get D151_49 rfl (by decide) hv
theorem D151_52 : decode (jt_code 151) 52 = .ok (.aload 4, 2) := by decide +kernel
theorem E151_52 {call : jv_F} {l0 l1 l2 l3 : Option Value} {a : Nat} {st : List Value} {h : jv_H} : jv_ev call 151 52 [l0, l1, l2, l3, some (.ref a)] st h = jv_ev call 151 54 [l0, l1, l2, l3, some (.ref a)] (.ref a :: st) h := je_aload (r := some a) D151_52 rfl rfl
theorem E151_52r {call : jv_F} {l0 l1 l2 l3 : Option Value} {r : Option Nat} {st : List Value} {h : jv_H} : jv_ev call 151 52 [l0, l1, l2, l3, some (va_rf r)] st h = jv_ev call 151 54 [l0, l1, l2, l3, some (va_rf r)] (va_rf r :: st) h := je_aload (r := r) D151_52 rfl rfl
theorem D151_54 : decode (jt_code 151) 54 = .ok (.invokevirtual 341, 3) := by decide +kernel
theorem E151_54 {call : jv_F} {l0 l1 l2 l3 l4 : Option Value} {b : Nat} {v0 : Value}  {st : List Value} {h : jv_H} (hw : jv_wide st = true) (hcl : jv_cl h b = some 3) (hc : (call 82 [.ref b, v0] h).isSome = true) : jv_ev call 151 54 [l0, l1, l2, l3, l4] (v0 :: .ref b :: st) h = jv_ev call 151 57 [l0, l1, l2, l3, l4] ((((call 82 [.ref b, v0] h).getD (none, h)).1).toList ++ st) ((call 82 [.ref b, v0] h).getD (none, h)).2 := by
  obtain ⟨⟨r, h'⟩, hv⟩ := Option.isSome_iff_exists.mp hc
  rw [hv]
  exact je_virt (y := 82) (as := [v0]) D151_54 rfl (by decide) (by decide) rfl hcl hw hv
theorem D151_57 : decode (jt_code 151) 57 = .ok (.aload_n 0, 1) := by decide +kernel
theorem E151_57 {call : jv_F} {l1 l2 l3 l4 : Option Value} {a : Nat} {st : List Value} {h : jv_H} : jv_ev call 151 57 [some (.ref a), l1, l2, l3, l4] st h = jv_ev call 151 58 [some (.ref a), l1, l2, l3, l4] (.ref a :: st) h := je_aload_n (r := some a) D151_57 rfl rfl
theorem D151_58 : decode (jt_code 151) 58 = .ok (.aload 4, 2) := by decide +kernel
theorem E151_58 {call : jv_F} {l0 l1 l2 l3 : Option Value} {a : Nat} {st : List Value} {h : jv_H} : jv_ev call 151 58 [l0, l1, l2, l3, some (.ref a)] st h = jv_ev call 151 60 [l0, l1, l2, l3, some (.ref a)] (.ref a :: st) h := je_aload (r := some a) D151_58 rfl rfl
theorem E151_58r {call : jv_F} {l0 l1 l2 l3 : Option Value} {r : Option Nat} {st : List Value} {h : jv_H} : jv_ev call 151 58 [l0, l1, l2, l3, some (va_rf r)] st h = jv_ev call 151 60 [l0, l1, l2, l3, some (va_rf r)] (va_rf r :: st) h := je_aload (r := r) D151_58 rfl rfl
theorem D151_60 : decode (jt_code 151) 60 = .ok (.invokevirtual 235, 3) := by decide +kernel
theorem E151_60 {call : jv_F} {l0 l1 l2 l3 l4 : Option Value} {b : Nat} {v0 : Value}  {st : List Value} {h : jv_H} (hw : jv_wide st = true) (hcl : jv_cl h b = some 6) (hc : (call 152 [.ref b, v0] h).isSome = true) : jv_ev call 151 60 [l0, l1, l2, l3, l4] (v0 :: .ref b :: st) h = jv_ev call 151 63 [l0, l1, l2, l3, l4] ((((call 152 [.ref b, v0] h).getD (none, h)).1).toList ++ st) ((call 152 [.ref b, v0] h).getD (none, h)).2 := by
  obtain ⟨⟨r, h'⟩, hv⟩ := Option.isSome_iff_exists.mp hc
  rw [hv]
  exact je_virt (y := 152) (as := [v0]) D151_60 rfl (by decide) (by decide) rfl hcl hw hv
theorem D151_63 : decode (jt_code 151) 63 = .ok (.iinc 3 1, 3) := by decide +kernel
theorem E151_63 {call : jv_F} {l0 l1 l2 l4 : Option Value} {x : Int32} {st : List Value} {h : jv_H} (hk : ¬ jv_is2 (some l2) = true) : jv_ev call 151 63 [l0, l1, l2, some (.int x), l4] st h = jv_ev call 151 66 [l0, l1, l2, some (.int (x + (nI 1))), l4] st h := je_iinc D151_63 rfl rfl (v := x + (nI 1)) (by rfl) (by show jv_st1 _ 3 _ = _; simp only [jv_st1, jv_kill, List.getElem?_cons_succ, List.getElem?_cons_zero, hk, if_false]; rfl)
theorem D151_66 : decode (jt_code 151) 66 = .ok (.goto (-49), 3) := by decide +kernel
theorem E151_66 {call : jv_F} {l0 l1 l2 l3 l4 : Option Value}  {st : List Value} {h : jv_H} : jv_ev call 151 66 [l0, l1, l2, l3, l4] st h = jv_ev call 151 17 [l0, l1, l2, l3, l4] st h := je_goto D151_66 (by decide)
theorem D151_69 : decode (jt_code 151) 69 = .ok (.aload_n 0, 1) := by decide +kernel
theorem E151_69 {call : jv_F} {l1 l2 l3 l4 : Option Value} {a : Nat} {st : List Value} {h : jv_H} : jv_ev call 151 69 [some (.ref a), l1, l2, l3, l4] st h = jv_ev call 151 70 [some (.ref a), l1, l2, l3, l4] (.ref a :: st) h := je_aload_n (r := some a) D151_69 rfl rfl
theorem D151_70 : decode (jt_code 151) 70 = .ok (.invokevirtual 100, 3) := by decide +kernel
theorem E151_70 {call : jv_F} {l0 l1 l2 l3 l4 : Option Value} {b : Nat}  {st : List Value} {h : jv_H} (hw : jv_wide st = true) (hcl : jv_cl h b = some 6) (hc : (call 140 [.ref b] h).isSome = true) : jv_ev call 151 70 [l0, l1, l2, l3, l4] (.ref b :: st) h = jv_ev call 151 73 [l0, l1, l2, l3, l4] ((((call 140 [.ref b] h).getD (none, h)).1).toList ++ st) ((call 140 [.ref b] h).getD (none, h)).2 := by
  obtain ⟨⟨r, h'⟩, hv⟩ := Option.isSome_iff_exists.mp hc
  rw [hv]
  exact je_virt (y := 140) (as := []) D151_70 rfl (by decide) (by decide) rfl hcl hw hv
theorem D151_73 : decode (jt_code 151) 73 = .ok (.return_, 1) := by decide +kernel
theorem E151_73 {call : jv_F} {l0 l1 l2 l3 l4 : Option Value}  {h : jv_H} : jv_ev call 151 73 [l0, l1, l2, l3, l4] [] h = some (none, h) := je_ret D151_73 rfl
/-! method 152: DrumMachine.forget -/
theorem N152 {d : Nat} {b : Nat} {a0 : Option Nat} {h : jv_H} : jv_run (d + 1) 152 [.ref b, va_rf a0] h = jv_ev (jv_run d) 152 0 [some (.ref b), some (va_rf a0)] [] h := by
  cases a0 <;>
  exact jv_run_eq (Nat.le_of_ble_eq_true rfl) rfl
theorem D152_0 : decode (jt_code 152) 0 = .ok (.aload_n 0, 1) := by decide +kernel
theorem E152_0 {call : jv_F} {l1 : Option Value} {a : Nat} {st : List Value} {h : jv_H} : jv_ev call 152 0 [some (.ref a), l1] st h = jv_ev call 152 1 [some (.ref a), l1] (.ref a :: st) h := je_aload_n (r := some a) D152_0 rfl rfl
theorem D152_1 : decode (jt_code 152) 1 = .ok (.getfield 19, 3) := by decide +kernel
theorem E152_1 {call : jv_F} {l0 l1 : Option Value} {a : Nat} {st : List Value} {h : jv_H} (hs : (jv_gf h a 6 1).isSome = true) : jv_ev call 152 1 [l0, l1] (.ref a :: st) h = jv_ev call 152 4 [l0, l1] ((jv_gf h a 6 1).getD .null :: st) h := by
  obtain ⟨v, hv⟩ := Option.isSome_iff_exists.mp hs
  rw [hv]
  exact je_get D152_1 rfl (by decide) hv
theorem D152_4 : decode (jt_code 152) 4 = .ok (.aload_n 1, 1) := by decide +kernel
theorem E152_4 {call : jv_F} {l0 : Option Value} {a : Nat} {st : List Value} {h : jv_H} : jv_ev call 152 4 [l0, some (.ref a)] st h = jv_ev call 152 5 [l0, some (.ref a)] (.ref a :: st) h := je_aload_n (r := some a) D152_4 rfl rfl
theorem E152_4r {call : jv_F} {l0 : Option Value} {r : Option Nat} {st : List Value} {h : jv_H} : jv_ev call 152 4 [l0, some (va_rf r)] st h = jv_ev call 152 5 [l0, some (va_rf r)] (va_rf r :: st) h := je_aload_n (r := r) D152_4 rfl rfl
theorem D152_5 : decode (jt_code 152) 5 = .ok (.invokevirtual 232, 3) := by decide +kernel
theorem E152_5 {call : jv_F} {l0 l1 : Option Value} {b : Nat} {v0 : Value}  {st : List Value} {h : jv_H} (hw : jv_wide st = true) (hcl : jv_cl h b = some 2) (hc : (call 72 [.ref b, v0] h).isSome = true) : jv_ev call 152 5 [l0, l1] (v0 :: .ref b :: st) h = jv_ev call 152 8 [l0, l1] ((((call 72 [.ref b, v0] h).getD (none, h)).1).toList ++ st) ((call 72 [.ref b, v0] h).getD (none, h)).2 := by
  obtain ⟨⟨r, h'⟩, hv⟩ := Option.isSome_iff_exists.mp hc
  rw [hv]
  exact je_virt (y := 72) (as := [v0]) D152_5 rfl (by decide) (by decide) rfl hcl hw hv
theorem D152_8 : decode (jt_code 152) 8 = .ok (.aload_n 0, 1) := by decide +kernel
theorem E152_8 {call : jv_F} {l1 : Option Value} {a : Nat} {st : List Value} {h : jv_H} : jv_ev call 152 8 [some (.ref a), l1] st h = jv_ev call 152 9 [some (.ref a), l1] (.ref a :: st) h := je_aload_n (r := some a) D152_8 rfl rfl
theorem D152_9 : decode (jt_code 152) 9 = .ok (.getfield 26, 3) := by decide +kernel
theorem E152_9 {call : jv_F} {l0 l1 : Option Value} {a : Nat} {st : List Value} {h : jv_H} (hs : (jv_gf h a 6 2).isSome = true) : jv_ev call 152 9 [l0, l1] (.ref a :: st) h = jv_ev call 152 12 [l0, l1] ((jv_gf h a 6 2).getD .null :: st) h := by
  obtain ⟨v, hv⟩ := Option.isSome_iff_exists.mp hs
  rw [hv]
  exact je_get D152_9 rfl (by decide) hv
theorem D152_12 : decode (jt_code 152) 12 = .ok (.aload_n 1, 1) := by decide +kernel
theorem E152_12 {call : jv_F} {l0 : Option Value} {a : Nat} {st : List Value} {h : jv_H} : jv_ev call 152 12 [l0, some (.ref a)] st h = jv_ev call 152 13 [l0, some (.ref a)] (.ref a :: st) h := je_aload_n (r := some a) D152_12 rfl rfl
theorem E152_12r {call : jv_F} {l0 : Option Value} {r : Option Nat} {st : List Value} {h : jv_H} : jv_ev call 152 12 [l0, some (va_rf r)] st h = jv_ev call 152 13 [l0, some (va_rf r)] (va_rf r :: st) h := je_aload_n (r := r) D152_12 rfl rfl
theorem D152_13 : decode (jt_code 152) 13 = .ok (.invokevirtual 344, 3) := by decide +kernel
theorem E152_13 {call : jv_F} {l0 l1 : Option Value} {b : Nat} {v0 : Value}  {st : List Value} {h : jv_H} (hw : jv_wide st = true) (hcl : jv_cl h b = some 3) (hc : (call 80 [.ref b, v0] h).isSome = true) : jv_ev call 152 13 [l0, l1] (v0 :: .ref b :: st) h = jv_ev call 152 16 [l0, l1] ((((call 80 [.ref b, v0] h).getD (none, h)).1).toList ++ st) ((call 80 [.ref b, v0] h).getD (none, h)).2 := by
  obtain ⟨⟨r, h'⟩, hv⟩ := Option.isSome_iff_exists.mp hc
  rw [hv]
  exact je_virt (y := 80) (as := [v0]) D152_13 rfl (by decide) (by decide) rfl hcl hw hv
theorem D152_16 : decode (jt_code 152) 16 = .ok (.aload_n 1, 1) := by decide +kernel
theorem E152_16 {call : jv_F} {l0 : Option Value} {a : Nat} {st : List Value} {h : jv_H} : jv_ev call 152 16 [l0, some (.ref a)] st h = jv_ev call 152 17 [l0, some (.ref a)] (.ref a :: st) h := je_aload_n (r := some a) D152_16 rfl rfl
theorem E152_16r {call : jv_F} {l0 : Option Value} {r : Option Nat} {st : List Value} {h : jv_H} : jv_ev call 152 16 [l0, some (va_rf r)] st h = jv_ev call 152 17 [l0, some (va_rf r)] (va_rf r :: st) h := je_aload_n (r := r) D152_16 rfl rfl
theorem D152_17 : decode (jt_code 152) 17 = .ok (.getfield 163, 3) := by decide +kernel
theorem E152_17 {call : jv_F} {l0 l1 : Option Value} {a : Nat} {st : List Value} {h : jv_H} (hs : (jv_gf h a 1 0).isSome = true) : jv_ev call 152 17 [l0, l1] (.ref a :: st) h = jv_ev call 152 20 [l0, l1] ((jv_gf h a 1 0).getD .null :: st) h := by
  obtain ⟨v, hv⟩ := Option.isSome_iff_exists.mp hs
  rw [hv]
  exact je_get D152_17 rfl (by decide) hv
theorem D152_20 : decode (jt_code 152) 20 = .ok (.aload_n 1, 1) := by decide +kernel
theorem E152_20 {call : jv_F} {l0 : Option Value} {a : Nat} {st : List Value} {h : jv_H} : jv_ev call 152 20 [l0, some (.ref a)] st h = jv_ev call 152 21 [l0, some (.ref a)] (.ref a :: st) h := je_aload_n (r := some a) D152_20 rfl rfl
theorem E152_20r {call : jv_F} {l0 : Option Value} {r : Option Nat} {st : List Value} {h : jv_H} : jv_ev call 152 20 [l0, some (va_rf r)] st h = jv_ev call 152 21 [l0, some (va_rf r)] (va_rf r :: st) h := je_aload_n (r := r) D152_20 rfl rfl
theorem D152_21 : decode (jt_code 152) 21 = .ok (.getfield 169, 3) := by decide +kernel
theorem E152_21 {call : jv_F} {l0 l1 : Option Value} {a : Nat} {st : List Value} {h : jv_H} (hs : (jv_gf h a 1 1).isSome = true) : jv_ev call 152 21 [l0, l1] (.ref a :: st) h = jv_ev call 152 24 [l0, l1] ((jv_gf h a 1 1).getD .null :: st) h := by
  obtain ⟨v, hv⟩ := Option.isSome_iff_exists.mp hs
  rw [hv]
  exact je_get D152_21 rfl (by decide) hv
theorem D152_24 : decode (jt_code 152) 24 = .ok (.aconst_null, 1) := by decide +kernel
theorem E152_24 {call : jv_F} {l0 l1 : Option Value}  {st : List Value} {h : jv_H} : jv_ev call 152 24 [l0, l1] st h = jv_ev call 152 25 [l0, l1] (.null :: st) h := je_null D152_24 rfl
theorem D152_25 : decode (jt_code 152) 25 = .ok (.invokevirtual 330, 3) := by decide +kernel
theorem E152_25 {call : jv_F} {l0 l1 : Option Value} {b : Nat} {v0 v1 : Value}  {st : List Value} {h : jv_H} (hw : jv_wide st = true) (hcl : jv_cl h b = some 4) (hc : (call 96 [.ref b, v0, v1] h).isSome = true) : jv_ev call 152 25 [l0, l1] (v1 :: v0 :: .ref b :: st) h = jv_ev call 152 28 [l0, l1] ((((call 96 [.ref b, v0, v1] h).getD (none, h)).1).toList ++ st) ((call 96 [.ref b, v0, v1] h).getD (none, h)).2 := by
  obtain ⟨⟨r, h'⟩, hv⟩ := Option.isSome_iff_exists.mp hc
  rw [hv]
  exact je_virt (y := 96) (as := [v0, v1]) D152_25 rfl (by decide) (by decide) rfl hcl hw hv
theorem D152_28 : decode (jt_code 152) 28 = .ok (.aload_n 0, 1) := by decide +kernel
theorem E152_28 {call : jv_F} {l1 : Option Value} {a : Nat} {st : List Value} {h : jv_H} : jv_ev call 152 28 [some (.ref a), l1] st h = jv_ev call 152 29 [some (.ref a), l1] (.ref a :: st) h := je_aload_n (r := some a) D152_28 rfl rfl
theorem D152_29 : decode (jt_code 152) 29 = .ok (.dup, 1) := by decide +kernel
theorem E152_29 {call : jv_F} {l0 l1 : Option Value} {a : Nat} {st : List Value} {h : jv_H} : jv_ev call 152 29 [l0, l1] (.ref a :: st) h = jv_ev call 152 30 [l0, l1] (.ref a :: .ref a :: st) h := je_dup D152_29 rfl rfl
theorem E152_29i {call : jv_F} {l0 l1 : Option Value} {x : Int32} {st : List Value} {h : jv_H} : jv_ev call 152 29 [l0, l1] (.int x :: st) h = jv_ev call 152 30 [l0, l1] (.int x :: .int x :: st) h := je_dup D152_29 rfl rfl
theorem D152_30 : decode (jt_code 152) 30 = .ok (.getfield 43, 3) := by decide +kernel
theorem E152_30 {call : jv_F} {l0 l1 : Option Value} {a : Nat} {st : List Value} {h : jv_H} (hs : (jv_gf h a 6 6).isSome = true) : jv_ev call 152 30 [l0, l1] (.ref a :: st) h = jv_ev call 152 33 [l0, l1] ((jv_gf h a 6 6).getD .null :: st) h := by
  obtain ⟨v, hv⟩ := Option.isSome_iff_exists.mp hs
  rw [hv]
  exact je_get D152_30 rfl (by decide) hv
theorem D152_33 : decode (jt_code 152) 33 = .ok (.iconst 1, 1) := by decide +kernel
theorem E152_33 {call : jv_F} {l0 l1 : Option Value}  {st : List Value} {h : jv_H} : jv_ev call 152 33 [l0, l1] st h = jv_ev call 152 34 [l0, l1] (.int (nI 1) :: st) h := je_iconst D152_33 rfl (by decide)
theorem D152_34 : decode (jt_code 152) 34 = .ok (.isub, 1) := by decide +kernel
theorem E152_34 {call : jv_F} {l0 l1 : Option Value} {x y : Int32} {st : List Value} {h : jv_H} : jv_ev call 152 34 [l0, l1] (.int y :: .int x :: st) h = jv_ev call 152 35 [l0, l1] (.int (x - y) :: st) h := je_b2 (f := fun x y => x - y) D152_34 rfl (fun _ => rfl)
theorem D152_35 : decode (jt_code 152) 35 = .ok (.putfield 43, 3) := by decide +kernel
theorem E152_35 {call : jv_F} {l0 l1 : Option Value} {a : Nat} {v : Value} {st : List Value} {h : jv_H} (hs : (jv_pf h a 6 6 v).isSome = true) : jv_ev call 152 35 [l0, l1] (v :: .ref a :: st) h = jv_ev call 152 38 [l0, l1] st ((jv_pf h a 6 6 v).getD h) := by
  obtain ⟨h', hv⟩ := Option.isSome_iff_exists.mp hs
  rw [hv]
  exact je_put D152_35 rfl (by decide) (by decide) hv
theorem D152_38 : decode (jt_code 152) 38 = .ok (.return_, 1) := by decide +kernel
theorem E152_38 {call : jv_F} {l0 l1 : Option Value}  {h : jv_H} : jv_ev call 152 38 [l0, l1] [] h = some (none, h) := je_ret D152_38 rfl
