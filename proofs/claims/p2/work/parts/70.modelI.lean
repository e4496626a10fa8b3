/-! method 0: DrumMachineModel.<init> -/
theorem N0 {d : Nat} {b : Nat} {h : jv_H} : jv_run (d + 1) 0 [.ref b] h = jv_ev (jv_run d) 0 0 [some (.ref b), none] [] h := jv_run_eq (Nat.le_of_ble_eq_true rfl) rfl
theorem D0_0 : decode (jt_code 0) 0 = .ok (.aload_n 0, 1) := by decide +kernel
theorem E0_0 {call : jv_F} {l1 : Option Value} {a : Nat} {st : List Value} {h : jv_H} : jv_ev call 0 0 [some (.ref a), l1] st h = jv_ev call 0 1 [some (.ref a), l1] (.ref a :: st) h := je_aload_n (r := some a) D0_0 rfl rfl
theorem D0_1 : decode (jt_code 0) 1 = .ok (.invokespecial 1, 3) := by decide +kernel
theorem E0_1 {call : jv_F} {l0 l1 : Option Value} {b : Nat} {st : List Value} {h : jv_H} (hw : jv_wide st = true) : jv_ev call 0 1 [l0, l1] (.ref b :: st) h = jv_ev call 0 4 [l0, l1] st h := je_obj D0_1 rfl (by decide) hw
theorem D0_4 : decode (jt_code 0) 4 = .ok (.aload_n 0, 1) := by decide +kernel
theorem E0_4 {call : jv_F} {l1 : Option Value} {a : Nat} {st : List Value} {h : jv_H} : jv_ev call 0 4 [some (.ref a), l1] st h = jv_ev call 0 5 [some (.ref a), l1] (.ref a :: st) h := je_aload_n (r := some a) D0_4 rfl rfl
theorem D0_5 : decode (jt_code 0) 5 = .ok (.bipush 7, 2) := by decide +kernel
theorem E0_5 {call : jv_F} {l0 l1 : Option Value}  {st : List Value} {h : jv_H} : jv_ev call 0 5 [l0, l1] st h = jv_ev call 0 7 [l0, l1] (.int (nI 7) :: st) h := je_bipush D0_5 rfl (by decide)
theorem D0_7 : decode (jt_code 0) 7 = .ok (.putfield 7, 3) := by decide +kernel
theorem E0_7 {call : jv_F} {l0 l1 : Option Value} {a : Nat} {v : Value} {st : List Value} {h : jv_H} (hs : (jv_pf h a 0 0 v).isSome = true) : jv_ev call 0 7 [l0, l1] (v :: .ref a :: st) h = jv_ev call 0 10 [l0, l1] st ((jv_pf h a 0 0 v).getD h) := by
  obtain ⟨h', hv⟩ := Option.isSome_iff_exists.mp hs
  rw [hv]
  exact je_put D0_7 rfl (by decide) (by decide) hv
theorem D0_10 : decode (jt_code 0) 10 = .ok (.aload_n 0, 1) := by decide +kernel
theorem E0_10 {call : jv_F} {l1 : Option Value} {a : Nat} {st : List Value} {h : jv_H} : jv_ev call 0 10 [some (.ref a), l1] st h = jv_ev call 0 11 [some (.ref a), l1] (.ref a :: st) h := je_aload_n (r := some a) D0_10 rfl rfl
theorem D0_11 : decode (jt_code 0) 11 = .ok (.sipush 1000, 3) := by decide +kernel
theorem E0_11 {call : jv_F} {l0 l1 : Option Value}  {st : List Value} {h : jv_H} : jv_ev call 0 11 [l0, l1] st h = jv_ev call 0 14 [l0, l1] (.int (nI 1000) :: st) h := je_sipush D0_11 rfl (by decide)
theorem D0_14 : decode (jt_code 0) 14 = .ok (.newarray .long, 2) := by decide +kernel
theorem E0_14 {call : jv_F} {l0 l1 : Option Value} {k : Nat} {st : List Value} {h : jv_H} (hk : k ≤ 100000) : jv_ev call 0 14 [l0, l1] (.int (nI k) :: st) h = jv_ev call 0 16 [l0, l1] (.ref h.2.1 :: st) (jv_newa h 1 k (.long 0)) := je_newarray D0_14 rfl (by decide) (by decide) (nI_pos (by omega)) (nI_clamp (by omega)) hk rfl
theorem D0_16 : decode (jt_code 0) 16 = .ok (.putfield 13, 3) := by decide +kernel
theorem E0_16 {call : jv_F} {l0 l1 : Option Value} {a : Nat} {v : Value} {st : List Value} {h : jv_H} (hs : (jv_pf h a 0 1 v).isSome = true) : jv_ev call 0 16 [l0, l1] (v :: .ref a :: st) h = jv_ev call 0 19 [l0, l1] st ((jv_pf h a 0 1 v).getD h) := by
  obtain ⟨h', hv⟩ := Option.isSome_iff_exists.mp hs
  rw [hv]
  exact je_put D0_16 rfl (by decide) (by decide) hv
theorem D0_19 : decode (jt_code 0) 19 = .ok (.aload_n 0, 1) := by decide +kernel
theorem E0_19 {call : jv_F} {l1 : Option Value} {a : Nat} {st : List Value} {h : jv_H} : jv_ev call 0 19 [some (.ref a), l1] st h = jv_ev call 0 20 [some (.ref a), l1] (.ref a :: st) h := je_aload_n (r := some a) D0_19 rfl rfl
theorem D0_20 : decode (jt_code 0) 20 = .ok (.sipush 2000, 3) := by decide +kernel
theorem E0_20 {call : jv_F} {l0 l1 : Option Value}  {st : List Value} {h : jv_H} : jv_ev call 0 20 [l0, l1] st h = jv_ev call 0 23 [l0, l1] (.int (nI 2000) :: st) h := je_sipush D0_20 rfl (by decide)
theorem D0_23 : decode (jt_code 0) 23 = .ok (.newarray .int, 2) := by decide +kernel
theorem E0_23 {call : jv_F} {l0 l1 : Option Value} {k : Nat} {st : List Value} {h : jv_H} (hk : k ≤ 100000) : jv_ev call 0 23 [l0, l1] (.int (nI k) :: st) h = jv_ev call 0 25 [l0, l1] (.ref h.2.1 :: st) (jv_newa h 0 k (.int 0)) := je_newarray D0_23 rfl (by decide) (by decide) (nI_pos (by omega)) (nI_clamp (by omega)) hk rfl
theorem D0_25 : decode (jt_code 0) 25 = .ok (.putfield 17, 3) := by decide +kernel
theorem E0_25 {call : jv_F} {l0 l1 : Option Value} {a : Nat} {v : Value} {st : List Value} {h : jv_H} (hs : (jv_pf h a 0 3 v).isSome = true) : jv_ev call 0 25 [l0, l1] (v :: .ref a :: st) h = jv_ev call 0 28 [l0, l1] st ((jv_pf h a 0 3 v).getD h) := by
  obtain ⟨h', hv⟩ := Option.isSome_iff_exists.mp hs
  rw [hv]
  exact je_put D0_25 rfl (by decide) (by decide) hv
theorem D0_28 : decode (jt_code 0) 28 = .ok (.aload_n 0, 1) := by decide +kernel
theorem E0_28 {call : jv_F} {l1 : Option Value} {a : Nat} {st : List Value} {h : jv_H} : jv_ev call 0 28 [some (.ref a), l1] st h = jv_ev call 0 29 [some (.ref a), l1] (.ref a :: st) h := je_aload_n (r := some a) D0_28 rfl rfl
theorem D0_29 : decode (jt_code 0) 29 = .ok (.bipush 12, 2) := by decide +kernel
theorem E0_29 {call : jv_F} {l0 l1 : Option Value}  {st : List Value} {h : jv_H} : jv_ev call 0 29 [l0, l1] st h = jv_ev call 0 31 [l0, l1] (.int (nI 12) :: st) h := je_bipush D0_29 rfl (by decide)
theorem D0_31 : decode (jt_code 0) 31 = .ok (.newarray .int, 2) := by decide +kernel
theorem E0_31 {call : jv_F} {l0 l1 : Option Value} {k : Nat} {st : List Value} {h : jv_H} (hk : k ≤ 100000) : jv_ev call 0 31 [l0, l1] (.int (nI k) :: st) h = jv_ev call 0 33 [l0, l1] (.ref h.2.1 :: st) (jv_newa h 0 k (.int 0)) := je_newarray D0_31 rfl (by decide) (by decide) (nI_pos (by omega)) (nI_clamp (by omega)) hk rfl
theorem D0_33 : decode (jt_code 0) 33 = .ok (.putfield 21, 3) := by decide +kernel
theorem E0_33 {call : jv_F} {l0 l1 : Option Value} {a : Nat} {v : Value} {st : List Value} {h : jv_H} (hs : (jv_pf h a 0 6 v).isSome = true) : jv_ev call 0 33 [l0, l1] (v :: .ref a :: st) h = jv_ev call 0 36 [l0, l1] st ((jv_pf h a 0 6 v).getD h) := by
  obtain ⟨h', hv⟩ := Option.isSome_iff_exists.mp hs
  rw [hv]
  exact je_put D0_33 rfl (by decide) (by decide) hv
theorem D0_36 : decode (jt_code 0) 36 = .ok (.aload_n 0, 1) := by decide +kernel
theorem E0_36 {call : jv_F} {l1 : Option Value} {a : Nat} {st : List Value} {h : jv_H} : jv_ev call 0 36 [some (.ref a), l1] st h = jv_ev call 0 37 [some (.ref a), l1] (.ref a :: st) h := je_aload_n (r := some a) D0_36 rfl rfl
theorem D0_37 : decode (jt_code 0) 37 = .ok (.bipush 12, 2) := by decide +kernel
theorem E0_37 {call : jv_F} {l0 l1 : Option Value}  {st : List Value} {h : jv_H} : jv_ev call 0 37 [l0, l1] st h = jv_ev call 0 39 [l0, l1] (.int (nI 12) :: st) h := je_bipush D0_37 rfl (by decide)
theorem D0_39 : decode (jt_code 0) 39 = .ok (.newarray .int, 2) := by decide +kernel
theorem E0_39 {call : jv_F} {l0 l1 : Option Value} {k : Nat} {st : List Value} {h : jv_H} (hk : k ≤ 100000) : jv_ev call 0 39 [l0, l1] (.int (nI k) :: st) h = jv_ev call 0 41 [l0, l1] (.ref h.2.1 :: st) (jv_newa h 0 k (.int 0)) := je_newarray D0_39 rfl (by decide) (by decide) (nI_pos (by omega)) (nI_clamp (by omega)) hk rfl
theorem D0_41 : decode (jt_code 0) 41 = .ok (.putfield 24, 3) := by decide +kernel
theorem E0_41 {call : jv_F} {l0 l1 : Option Value} {a : Nat} {v : Value} {st : List Value} {h : jv_H} (hs : (jv_pf h a 0 7 v).isSome = true) : jv_ev call 0 41 [l0, l1] (v :: .ref a :: st) h = jv_ev call 0 44 [l0, l1] st ((jv_pf h a 0 7 v).getD h) := by
  obtain ⟨h', hv⟩ := Option.isSome_iff_exists.mp hs
  rw [hv]
  exact je_put D0_41 rfl (by decide) (by decide) hv
theorem D0_44 : decode (jt_code 0) 44 = .ok (.aload_n 0, 1) := by decide +kernel
theorem E0_44 {call : jv_F} {l1 : Option Value} {a : Nat} {st : List Value} {h : jv_H} : jv_ev call 0 44 [some (.ref a), l1] st h = jv_ev call 0 45 [some (.ref a), l1] (.ref a :: st) h := je_aload_n (r := some a) D0_44 rfl rfl
theorem D0_45 : decode (jt_code 0) 45 = .ok (.bipush 12, 2) := by decide +kernel
theorem E0_45 {call : jv_F} {l0 l1 : Option Value}  {st : List Value} {h : jv_H} : jv_ev call 0 45 [l0, l1] st h = jv_ev call 0 47 [l0, l1] (.int (nI 12) :: st) h := je_bipush D0_45 rfl (by decide)
theorem D0_47 : decode (jt_code 0) 47 = .ok (.newarray .int, 2) := by decide +kernel
theorem E0_47 {call : jv_F} {l0 l1 : Option Value} {k : Nat} {st : List Value} {h : jv_H} (hk : k ≤ 100000) : jv_ev call 0 47 [l0, l1] (.int (nI k) :: st) h = jv_ev call 0 49 [l0, l1] (.ref h.2.1 :: st) (jv_newa h 0 k (.int 0)) := je_newarray D0_47 rfl (by decide) (by decide) (nI_pos (by omega)) (nI_clamp (by omega)) hk rfl
theorem D0_49 : decode (jt_code 0) 49 = .ok (.putfield 27, 3) := by decide +kernel
theorem E0_49 {call : jv_F} {l0 l1 : Option Value} {a : Nat} {v : Value} {st : List Value} {h : jv_H} (hs : (jv_pf h a 0 8 v).isSome = true) : jv_ev call 0 49 [l0, l1] (v :: .ref a :: st) h = jv_ev call 0 52 [l0, l1] st ((jv_pf h a 0 8 v).getD h) := by
  obtain ⟨h', hv⟩ := Option.isSome_iff_exists.mp hs
  rw [hv]
  exact je_put D0_49 rfl (by decide) (by decide) hv
theorem D0_52 : decode (jt_code 0) 52 = .ok (.aload_n 0, 1) := by decide +kernel
theorem E0_52 {call : jv_F} {l1 : Option Value} {a : Nat} {st : List Value} {h : jv_H} : jv_ev call 0 52 [some (.ref a), l1] st h = jv_ev call 0 53 [some (.ref a), l1] (.ref a :: st) h := je_aload_n (r := some a) D0_52 rfl rfl
theorem D0_53 : decode (jt_code 0) 53 = .ok (.bipush 12, 2) := by decide +kernel
theorem E0_53 {call : jv_F} {l0 l1 : Option Value}  {st : List Value} {h : jv_H} : jv_ev call 0 53 [l0, l1] st h = jv_ev call 0 55 [l0, l1] (.int (nI 12) :: st) h := je_bipush D0_53 rfl (by decide)
theorem D0_55 : decode (jt_code 0) 55 = .ok (.newarray .int, 2) := by decide +kernel
theorem E0_55 {call : jv_F} {l0 l1 : Option Value} {k : Nat} {st : List Value} {h : jv_H} (hk : k ≤ 100000) : jv_ev call 0 55 [l0, l1] (.int (nI k) :: st) h = jv_ev call 0 57 [l0, l1] (.ref h.2.1 :: st) (jv_newa h 0 k (.int 0)) := je_newarray D0_55 rfl (by decide) (by decide) (nI_pos (by omega)) (nI_clamp (by omega)) hk rfl
theorem D0_57 : decode (jt_code 0) 57 = .ok (.putfield 30, 3) := by decide +kernel
theorem E0_57 {call : jv_F} {l0 l1 : Option Value} {a : Nat} {v : Value} {st : List Value} {h : jv_H} (hs : (jv_pf h a 0 9 v).isSome = true) : jv_ev call 0 57 [l0, l1] (v :: .ref a :: st) h = jv_ev call 0 60 [l0, l1] st ((jv_pf h a 0 9 v).getD h) := by
  obtain ⟨h', hv⟩ := Option.isSome_iff_exists.mp hs
  rw [hv]
  exact je_put D0_57 rfl (by decide) (by decide) hv
theorem D0_60 : decode (jt_code 0) 60 = .ok (.aload_n 0, 1) := by decide +kernel
theorem E0_60 {call : jv_F} {l1 : Option Value} {a : Nat} {st : List Value} {h : jv_H} : jv_ev call 0 60 [some (.ref a), l1] st h = jv_ev call 0 61 [some (.ref a), l1] (.ref a :: st) h := je_aload_n (r := some a) D0_60 rfl rfl
theorem D0_61 : decode (jt_code 0) 61 = .ok (.bipush 12, 2) := by decide +kernel
theorem E0_61 {call : jv_F} {l0 l1 : Option Value}  {st : List Value} {h : jv_H} : jv_ev call 0 61 [l0, l1] st h = jv_ev call 0 63 [l0, l1] (.int (nI 12) :: st) h := je_bipush D0_61 rfl (by decide)
theorem D0_63 : decode (jt_code 0) 63 = .ok (.newarray .long, 2) := by decide +kernel
theorem E0_63 {call : jv_F} {l0 l1 : Option Value} {k : Nat} {st : List Value} {h : jv_H} (hk : k ≤ 100000) : jv_ev call 0 63 [l0, l1] (.int (nI k) :: st) h = jv_ev call 0 65 [l0, l1] (.ref h.2.1 :: st) (jv_newa h 1 k (.long 0)) := je_newarray D0_63 rfl (by decide) (by decide) (nI_pos (by omega)) (nI_clamp (by omega)) hk rfl
theorem D0_65 : decode (jt_code 0) 65 = .ok (.putfield 33, 3) := by decide +kernel
theorem E0_65 {call : jv_F} {l0 l1 : Option Value} {a : Nat} {v : Value} {st : List Value} {h : jv_H} (hs : (jv_pf h a 0 10 v).isSome = true) : jv_ev call 0 65 [l0, l1] (v :: .ref a :: st) h = jv_ev call 0 68 [l0, l1] st ((jv_pf h a 0 10 v).getD h) := by
  obtain ⟨h', hv⟩ := Option.isSome_iff_exists.mp hs
  rw [hv]
  exact je_put D0_65 rfl (by decide) (by decide) hv
theorem D0_68 : decode (jt_code 0) 68 = .ok (.aload_n 0, 1) := by decide +kernel
theorem E0_68 {call : jv_F} {l1 : Option Value} {a : Nat} {st : List Value} {h : jv_H} : jv_ev call 0 68 [some (.ref a), l1] st h = jv_ev call 0 69 [some (.ref a), l1] (.ref a :: st) h := je_aload_n (r := some a) D0_68 rfl rfl
theorem D0_69 : decode (jt_code 0) 69 = .ok (.sipush 1536, 3) := by decide +kernel
theorem E0_69 {call : jv_F} {l0 l1 : Option Value}  {st : List Value} {h : jv_H} : jv_ev call 0 69 [l0, l1] st h = jv_ev call 0 72 [l0, l1] (.int (nI 1536) :: st) h := je_sipush D0_69 rfl (by decide)
theorem D0_72 : decode (jt_code 0) 72 = .ok (.newarray .int, 2) := by decide +kernel
theorem E0_72 {call : jv_F} {l0 l1 : Option Value} {k : Nat} {st : List Value} {h : jv_H} (hk : k ≤ 100000) : jv_ev call 0 72 [l0, l1] (.int (nI k) :: st) h = jv_ev call 0 74 [l0, l1] (.ref h.2.1 :: st) (jv_newa h 0 k (.int 0)) := je_newarray D0_72 rfl (by decide) (by decide) (nI_pos (by omega)) (nI_clamp (by omega)) hk rfl
theorem D0_74 : decode (jt_code 0) 74 = .ok (.putfield 36, 3) := by decide +kernel
theorem E0_74 {call : jv_F} {l0 l1 : Option Value} {a : Nat} {v : Value} {st : List Value} {h : jv_H} (hs : (jv_pf h a 0 11 v).isSome = true) : jv_ev call 0 74 [l0, l1] (v :: .ref a :: st) h = jv_ev call 0 77 [l0, l1] st ((jv_pf h a 0 11 v).getD h) := by
  obtain ⟨h', hv⟩ := Option.isSome_iff_exists.mp hs
  rw [hv]
  exact je_put D0_74 rfl (by decide) (by decide) hv
theorem D0_77 : decode (jt_code 0) 77 = .ok (.aload_n 0, 1) := by decide +kernel
theorem E0_77 {call : jv_F} {l1 : Option Value} {a : Nat} {st : List Value} {h : jv_H} : jv_ev call 0 77 [some (.ref a), l1] st h = jv_ev call 0 78 [some (.ref a), l1] (.ref a :: st) h := je_aload_n (r := some a) D0_77 rfl rfl
theorem D0_78 : decode (jt_code 0) 78 = .ok (.sipush 12288, 3) := by decide +kernel
theorem E0_78 {call : jv_F} {l0 l1 : Option Value}  {st : List Value} {h : jv_H} : jv_ev call 0 78 [l0, l1] st h = jv_ev call 0 81 [l0, l1] (.int (nI 12288) :: st) h := je_sipush D0_78 rfl (by decide)
theorem D0_81 : decode (jt_code 0) 81 = .ok (.newarray .long, 2) := by decide +kernel
theorem E0_81 {call : jv_F} {l0 l1 : Option Value} {k : Nat} {st : List Value} {h : jv_H} (hk : k ≤ 100000) : jv_ev call 0 81 [l0, l1] (.int (nI k) :: st) h = jv_ev call 0 83 [l0, l1] (.ref h.2.1 :: st) (jv_newa h 1 k (.long 0)) := je_newarray D0_81 rfl (by decide) (by decide) (nI_pos (by omega)) (nI_clamp (by omega)) hk rfl
theorem D0_83 : decode (jt_code 0) 83 = .ok (.putfield 39, 3) := by decide +kernel
theorem E0_83 {call : jv_F} {l0 l1 : Option Value} {a : Nat} {v : Value} {st : List Value} {h : jv_H} (hs : (jv_pf h a 0 12 v).isSome = true) : jv_ev call 0 83 [l0, l1] (v :: .ref a :: st) h = jv_ev call 0 86 [l0, l1] st ((jv_pf h a 0 12 v).getD h) := by
  obtain ⟨h', hv⟩ := Option.isSome_iff_exists.mp hs
  rw [hv]
  exact je_put D0_83 rfl (by decide) (by decide) hv
theorem D0_86 : decode (jt_code 0) 86 = .ok (.aload_n 0, 1) := by decide +kernel
theorem E0_86 {call : jv_F} {l1 : Option Value} {a : Nat} {st : List Value} {h : jv_H} : jv_ev call 0 86 [some (.ref a), l1] st h = jv_ev call 0 87 [some (.ref a), l1] (.ref a :: st) h := je_aload_n (r := some a) D0_86 rfl rfl
theorem D0_87 : decode (jt_code 0) 87 = .ok (.sipush 24000, 3) := by decide +kernel
theorem E0_87 {call : jv_F} {l0 l1 : Option Value}  {st : List Value} {h : jv_H} : jv_ev call 0 87 [l0, l1] st h = jv_ev call 0 90 [l0, l1] (.int (nI 24000) :: st) h := je_sipush D0_87 rfl (by decide)
theorem D0_90 : decode (jt_code 0) 90 = .ok (.newarray .int, 2) := by decide +kernel
theorem E0_90 {call : jv_F} {l0 l1 : Option Value} {k : Nat} {st : List Value} {h : jv_H} (hk : k ≤ 100000) : jv_ev call 0 90 [l0, l1] (.int (nI k) :: st) h = jv_ev call 0 92 [l0, l1] (.ref h.2.1 :: st) (jv_newa h 0 k (.int 0)) := je_newarray D0_90 rfl (by decide) (by decide) (nI_pos (by omega)) (nI_clamp (by omega)) hk rfl
theorem D0_92 : decode (jt_code 0) 92 = .ok (.putfield 42, 3) := by decide +kernel
theorem E0_92 {call : jv_F} {l0 l1 : Option Value} {a : Nat} {v : Value} {st : List Value} {h : jv_H} (hs : (jv_pf h a 0 13 v).isSome = true) : jv_ev call 0 92 [l0, l1] (v :: .ref a :: st) h = jv_ev call 0 95 [l0, l1] st ((jv_pf h a 0 13 v).getD h) := by
  obtain ⟨h', hv⟩ := Option.isSome_iff_exists.mp hs
  rw [hv]
  exact je_put D0_92 rfl (by decide) (by decide) hv
theorem D0_95 : decode (jt_code 0) 95 = .ok (.aload_n 0, 1) := by decide +kernel
theorem E0_95 {call : jv_F} {l1 : Option Value} {a : Nat} {st : List Value} {h : jv_H} : jv_ev call 0 95 [some (.ref a), l1] st h = jv_ev call 0 96 [some (.ref a), l1] (.ref a :: st) h := je_aload_n (r := some a) D0_95 rfl rfl
theorem D0_96 : decode (jt_code 0) 96 = .ok (.bipush 12, 2) := by decide +kernel
theorem E0_96 {call : jv_F} {l0 l1 : Option Value}  {st : List Value} {h : jv_H} : jv_ev call 0 96 [l0, l1] st h = jv_ev call 0 98 [l0, l1] (.int (nI 12) :: st) h := je_bipush D0_96 rfl (by decide)
theorem D0_98 : decode (jt_code 0) 98 = .ok (.newarray .int, 2) := by decide +kernel
theorem E0_98 {call : jv_F} {l0 l1 : Option Value} {k : Nat} {st : List Value} {h : jv_H} (hk : k ≤ 100000) : jv_ev call 0 98 [l0, l1] (.int (nI k) :: st) h = jv_ev call 0 100 [l0, l1] (.ref h.2.1 :: st) (jv_newa h 0 k (.int 0)) := je_newarray D0_98 rfl (by decide) (by decide) (nI_pos (by omega)) (nI_clamp (by omega)) hk rfl
theorem D0_100 : decode (jt_code 0) 100 = .ok (.putfield 45, 3) := by decide +kernel
theorem E0_100 {call : jv_F} {l0 l1 : Option Value} {a : Nat} {v : Value} {st : List Value} {h : jv_H} (hs : (jv_pf h a 0 14 v).isSome = true) : jv_ev call 0 100 [l0, l1] (v :: .ref a :: st) h = jv_ev call 0 103 [l0, l1] st ((jv_pf h a 0 14 v).getD h) := by
  obtain ⟨h', hv⟩ := Option.isSome_iff_exists.mp hs
  rw [hv]
  exact je_put D0_100 rfl (by decide) (by decide) hv
theorem D0_103 : decode (jt_code 0) 103 = .ok (.aload_n 0, 1) := by decide +kernel
theorem E0_103 {call : jv_F} {l1 : Option Value} {a : Nat} {st : List Value} {h : jv_H} : jv_ev call 0 103 [some (.ref a), l1] st h = jv_ev call 0 104 [some (.ref a), l1] (.ref a :: st) h := je_aload_n (r := some a) D0_103 rfl rfl
theorem D0_104 : decode (jt_code 0) 104 = .ok (.bipush 12, 2) := by decide +kernel
theorem E0_104 {call : jv_F} {l0 l1 : Option Value}  {st : List Value} {h : jv_H} : jv_ev call 0 104 [l0, l1] st h = jv_ev call 0 106 [l0, l1] (.int (nI 12) :: st) h := je_bipush D0_104 rfl (by decide)
theorem D0_106 : decode (jt_code 0) 106 = .ok (.newarray .int, 2) := by decide +kernel
theorem E0_106 {call : jv_F} {l0 l1 : Option Value} {k : Nat} {st : List Value} {h : jv_H} (hk : k ≤ 100000) : jv_ev call 0 106 [l0, l1] (.int (nI k) :: st) h = jv_ev call 0 108 [l0, l1] (.ref h.2.1 :: st) (jv_newa h 0 k (.int 0)) := je_newarray D0_106 rfl (by decide) (by decide) (nI_pos (by omega)) (nI_clamp (by omega)) hk rfl
theorem D0_108 : decode (jt_code 0) 108 = .ok (.putfield 48, 3) := by decide +kernel
theorem E0_108 {call : jv_F} {l0 l1 : Option Value} {a : Nat} {v : Value} {st : List Value} {h : jv_H} (hs : (jv_pf h a 0 15 v).isSome = true) : jv_ev call 0 108 [l0, l1] (v :: .ref a :: st) h = jv_ev call 0 111 [l0, l1] st ((jv_pf h a 0 15 v).getD h) := by
  obtain ⟨h', hv⟩ := Option.isSome_iff_exists.mp hs
  rw [hv]
  exact je_put D0_108 rfl (by decide) (by decide) hv
theorem D0_111 : decode (jt_code 0) 111 = .ok (.aload_n 0, 1) := by decide +kernel
theorem E0_111 {call : jv_F} {l1 : Option Value} {a : Nat} {st : List Value} {h : jv_H} : jv_ev call 0 111 [some (.ref a), l1] st h = jv_ev call 0 112 [some (.ref a), l1] (.ref a :: st) h := je_aload_n (r := some a) D0_111 rfl rfl
theorem D0_112 : decode (jt_code 0) 112 = .ok (.sipush 4800, 3) := by decide +kernel
theorem E0_112 {call : jv_F} {l0 l1 : Option Value}  {st : List Value} {h : jv_H} : jv_ev call 0 112 [l0, l1] st h = jv_ev call 0 115 [l0, l1] (.int (nI 4800) :: st) h := je_sipush D0_112 rfl (by decide)
theorem D0_115 : decode (jt_code 0) 115 = .ok (.newarray .int, 2) := by decide +kernel
theorem E0_115 {call : jv_F} {l0 l1 : Option Value} {k : Nat} {st : List Value} {h : jv_H} (hk : k ≤ 100000) : jv_ev call 0 115 [l0, l1] (.int (nI k) :: st) h = jv_ev call 0 117 [l0, l1] (.ref h.2.1 :: st) (jv_newa h 0 k (.int 0)) := je_newarray D0_115 rfl (by decide) (by decide) (nI_pos (by omega)) (nI_clamp (by omega)) hk rfl
theorem D0_117 : decode (jt_code 0) 117 = .ok (.putfield 51, 3) := by decide +kernel
theorem E0_117 {call : jv_F} {l0 l1 : Option Value} {a : Nat} {v : Value} {st : List Value} {h : jv_H} (hs : (jv_pf h a 0 16 v).isSome = true) : jv_ev call 0 117 [l0, l1] (v :: .ref a :: st) h = jv_ev call 0 120 [l0, l1] st ((jv_pf h a 0 16 v).getD h) := by
  obtain ⟨h', hv⟩ := Option.isSome_iff_exists.mp hs
  rw [hv]
  exact je_put D0_117 rfl (by decide) (by decide) hv
theorem D0_120 : decode (jt_code 0) 120 = .ok (.aload_n 0, 1) := by decide +kernel
theorem E0_120 {call : jv_F} {l1 : Option Value} {a : Nat} {st : List Value} {h : jv_H} : jv_ev call 0 120 [some (.ref a), l1] st h = jv_ev call 0 121 [some (.ref a), l1] (.ref a :: st) h := je_aload_n (r := some a) D0_120 rfl rfl
theorem D0_121 : decode (jt_code 0) 121 = .ok (.bipush 12, 2) := by decide +kernel
theorem E0_121 {call : jv_F} {l0 l1 : Option Value}  {st : List Value} {h : jv_H} : jv_ev call 0 121 [l0, l1] st h = jv_ev call 0 123 [l0, l1] (.int (nI 12) :: st) h := je_bipush D0_121 rfl (by decide)
theorem D0_123 : decode (jt_code 0) 123 = .ok (.newarray .int, 2) := by decide +kernel
theorem E0_123 {call : jv_F} {l0 l1 : Option Value} {k : Nat} {st : List Value} {h : jv_H} (hk : k ≤ 100000) : jv_ev call 0 123 [l0, l1] (.int (nI k) :: st) h = jv_ev call 0 125 [l0, l1] (.ref h.2.1 :: st) (jv_newa h 0 k (.int 0)) := je_newarray D0_123 rfl (by decide) (by decide) (nI_pos (by omega)) (nI_clamp (by omega)) hk rfl
theorem D0_125 : decode (jt_code 0) 125 = .ok (.putfield 54, 3) := by decide +kernel
theorem E0_125 {call : jv_F} {l0 l1 : Option Value} {a : Nat} {v : Value} {st : List Value} {h : jv_H} (hs : (jv_pf h a 0 17 v).isSome = true) : jv_ev call 0 125 [l0, l1] (v :: .ref a :: st) h = jv_ev call 0 128 [l0, l1] st ((jv_pf h a 0 17 v).getD h) := by
  obtain ⟨h', hv⟩ := Option.isSome_iff_exists.mp hs
  rw [hv]
  exact je_put D0_125 rfl (by decide) (by decide) hv
theorem D0_128 : decode (jt_code 0) 128 = .ok (.aload_n 0, 1) := by decide +kernel
theorem E0_128 {call : jv_F} {l1 : Option Value} {a : Nat} {st : List Value} {h : jv_H} : jv_ev call 0 128 [some (.ref a), l1] st h = jv_ev call 0 129 [some (.ref a), l1] (.ref a :: st) h := je_aload_n (r := some a) D0_128 rfl rfl
theorem D0_129 : decode (jt_code 0) 129 = .ok (.bipush 12, 2) := by decide +kernel
theorem E0_129 {call : jv_F} {l0 l1 : Option Value}  {st : List Value} {h : jv_H} : jv_ev call 0 129 [l0, l1] st h = jv_ev call 0 131 [l0, l1] (.int (nI 12) :: st) h := je_bipush D0_129 rfl (by decide)
theorem D0_131 : decode (jt_code 0) 131 = .ok (.newarray .int, 2) := by decide +kernel
theorem E0_131 {call : jv_F} {l0 l1 : Option Value} {k : Nat} {st : List Value} {h : jv_H} (hk : k ≤ 100000) : jv_ev call 0 131 [l0, l1] (.int (nI k) :: st) h = jv_ev call 0 133 [l0, l1] (.ref h.2.1 :: st) (jv_newa h 0 k (.int 0)) := je_newarray D0_131 rfl (by decide) (by decide) (nI_pos (by omega)) (nI_clamp (by omega)) hk rfl
theorem D0_133 : decode (jt_code 0) 133 = .ok (.putfield 57, 3) := by decide +kernel
theorem E0_133 {call : jv_F} {l0 l1 : Option Value} {a : Nat} {v : Value} {st : List Value} {h : jv_H} (hs : (jv_pf h a 0 18 v).isSome = true) : jv_ev call 0 133 [l0, l1] (v :: .ref a :: st) h = jv_ev call 0 136 [l0, l1] st ((jv_pf h a 0 18 v).getD h) := by
  obtain ⟨h', hv⟩ := Option.isSome_iff_exists.mp hs
  rw [hv]
  exact je_put D0_133 rfl (by decide) (by decide) hv
theorem D0_136 : decode (jt_code 0) 136 = .ok (.aload_n 0, 1) := by decide +kernel
theorem E0_136 {call : jv_F} {l1 : Option Value} {a : Nat} {st : List Value} {h : jv_H} : jv_ev call 0 136 [some (.ref a), l1] st h = jv_ev call 0 137 [some (.ref a), l1] (.ref a :: st) h := je_aload_n (r := some a) D0_136 rfl rfl
theorem D0_137 : decode (jt_code 0) 137 = .ok (.bipush 12, 2) := by decide +kernel
theorem E0_137 {call : jv_F} {l0 l1 : Option Value}  {st : List Value} {h : jv_H} : jv_ev call 0 137 [l0, l1] st h = jv_ev call 0 139 [l0, l1] (.int (nI 12) :: st) h := je_bipush D0_137 rfl (by decide)
theorem D0_139 : decode (jt_code 0) 139 = .ok (.newarray .int, 2) := by decide +kernel
theorem E0_139 {call : jv_F} {l0 l1 : Option Value} {k : Nat} {st : List Value} {h : jv_H} (hk : k ≤ 100000) : jv_ev call 0 139 [l0, l1] (.int (nI k) :: st) h = jv_ev call 0 141 [l0, l1] (.ref h.2.1 :: st) (jv_newa h 0 k (.int 0)) := je_newarray D0_139 rfl (by decide) (by decide) (nI_pos (by omega)) (nI_clamp (by omega)) hk rfl
theorem D0_141 : decode (jt_code 0) 141 = .ok (.putfield 60, 3) := by decide +kernel
theorem E0_141 {call : jv_F} {l0 l1 : Option Value} {a : Nat} {v : Value} {st : List Value} {h : jv_H} (hs : (jv_pf h a 0 19 v).isSome = true) : jv_ev call 0 141 [l0, l1] (v :: .ref a :: st) h = jv_ev call 0 144 [l0, l1] st ((jv_pf h a 0 19 v).getD h) := by
  obtain ⟨h', hv⟩ := Option.isSome_iff_exists.mp hs
  rw [hv]
  exact je_put D0_141 rfl (by decide) (by decide) hv
theorem D0_144 : decode (jt_code 0) 144 = .ok (.aload_n 0, 1) := by decide +kernel
theorem E0_144 {call : jv_F} {l1 : Option Value} {a : Nat} {st : List Value} {h : jv_H} : jv_ev call 0 144 [some (.ref a), l1] st h = jv_ev call 0 145 [some (.ref a), l1] (.ref a :: st) h := je_aload_n (r := some a) D0_144 rfl rfl
theorem D0_145 : decode (jt_code 0) 145 = .ok (.sipush 768, 3) := by decide +kernel
theorem E0_145 {call : jv_F} {l0 l1 : Option Value}  {st : List Value} {h : jv_H} : jv_ev call 0 145 [l0, l1] st h = jv_ev call 0 148 [l0, l1] (.int (nI 768) :: st) h := je_sipush D0_145 rfl (by decide)
theorem D0_148 : decode (jt_code 0) 148 = .ok (.newarray .boolean, 2) := by decide +kernel
theorem E0_148 {call : jv_F} {l0 l1 : Option Value} {k : Nat} {st : List Value} {h : jv_H} (hk : k ≤ 100000) : jv_ev call 0 148 [l0, l1] (.int (nI k) :: st) h = jv_ev call 0 150 [l0, l1] (.ref h.2.1 :: st) (jv_newa h 2 k (.int 0)) := je_newarray D0_148 rfl (by decide) (by decide) (nI_pos (by omega)) (nI_clamp (by omega)) hk rfl
theorem D0_150 : decode (jt_code 0) 150 = .ok (.putfield 63, 3) := by decide +kernel
theorem E0_150 {call : jv_F} {l0 l1 : Option Value} {a : Nat} {v : Value} {st : List Value} {h : jv_H} (hs : (jv_pf h a 0 20 v).isSome = true) : jv_ev call 0 150 [l0, l1] (v :: .ref a :: st) h = jv_ev call 0 153 [l0, l1] st ((jv_pf h a 0 20 v).getD h) := by
  obtain ⟨h', hv⟩ := Option.isSome_iff_exists.mp hs
  rw [hv]
  exact je_put D0_150 rfl (by decide) (by decide) hv
theorem D0_153 : decode (jt_code 0) 153 = .ok (.aload_n 0, 1) := by decide +kernel
theorem E0_153 {call : jv_F} {l1 : Option Value} {a : Nat} {st : List Value} {h : jv_H} : jv_ev call 0 153 [some (.ref a), l1] st h = jv_ev call 0 154 [some (.ref a), l1] (.ref a :: st) h := je_aload_n (r := some a) D0_153 rfl rfl
theorem D0_154 : decode (jt_code 0) 154 = .ok (.sipush 768, 3) := by decide +kernel
theorem E0_154 {call : jv_F} {l0 l1 : Option Value}  {st : List Value} {h : jv_H} : jv_ev call 0 154 [l0, l1] st h = jv_ev call 0 157 [l0, l1] (.int (nI 768) :: st) h := je_sipush D0_154 rfl (by decide)
theorem D0_157 : decode (jt_code 0) 157 = .ok (.newarray .int, 2) := by decide +kernel
theorem E0_157 {call : jv_F} {l0 l1 : Option Value} {k : Nat} {st : List Value} {h : jv_H} (hk : k ≤ 100000) : jv_ev call 0 157 [l0, l1] (.int (nI k) :: st) h = jv_ev call 0 159 [l0, l1] (.ref h.2.1 :: st) (jv_newa h 0 k (.int 0)) := je_newarray D0_157 rfl (by decide) (by decide) (nI_pos (by omega)) (nI_clamp (by omega)) hk rfl
theorem D0_159 : decode (jt_code 0) 159 = .ok (.putfield 67, 3) := by decide +kernel
theorem E0_159 {call : jv_F} {l0 l1 : Option Value} {a : Nat} {v : Value} {st : List Value} {h : jv_H} (hs : (jv_pf h a 0 21 v).isSome = true) : jv_ev call 0 159 [l0, l1] (v :: .ref a :: st) h = jv_ev call 0 162 [l0, l1] st ((jv_pf h a 0 21 v).getD h) := by
  obtain ⟨h', hv⟩ := Option.isSome_iff_exists.mp hs
  rw [hv]
  exact je_put D0_159 rfl (by decide) (by decide) hv
theorem D0_162 : decode (jt_code 0) 162 = .ok (.aload_n 0, 1) := by decide +kernel
theorem E0_162 {call : jv_F} {l1 : Option Value} {a : Nat} {st : List Value} {h : jv_H} : jv_ev call 0 162 [some (.ref a), l1] st h = jv_ev call 0 163 [some (.ref a), l1] (.ref a :: st) h := je_aload_n (r := some a) D0_162 rfl rfl
theorem D0_163 : decode (jt_code 0) 163 = .ok (.bipush 17, 2) := by decide +kernel
theorem E0_163 {call : jv_F} {l0 l1 : Option Value}  {st : List Value} {h : jv_H} : jv_ev call 0 163 [l0, l1] st h = jv_ev call 0 165 [l0, l1] (.int (nI 17) :: st) h := je_bipush D0_163 rfl (by decide)
theorem D0_165 : decode (jt_code 0) 165 = .ok (.newarray .int, 2) := by decide +kernel
theorem E0_165 {call : jv_F} {l0 l1 : Option Value} {k : Nat} {st : List Value} {h : jv_H} (hk : k ≤ 100000) : jv_ev call 0 165 [l0, l1] (.int (nI k) :: st) h = jv_ev call 0 167 [l0, l1] (.ref h.2.1 :: st) (jv_newa h 0 k (.int 0)) := je_newarray D0_165 rfl (by decide) (by decide) (nI_pos (by omega)) (nI_clamp (by omega)) hk rfl
theorem D0_167 : decode (jt_code 0) 167 = .ok (.putfield 70, 3) := by decide +kernel
theorem E0_167 {call : jv_F} {l0 l1 : Option Value} {a : Nat} {v : Value} {st : List Value} {h : jv_H} (hs : (jv_pf h a 0 23 v).isSome = true) : jv_ev call 0 167 [l0, l1] (v :: .ref a :: st) h = jv_ev call 0 170 [l0, l1] st ((jv_pf h a 0 23 v).getD h) := by
  obtain ⟨h', hv⟩ := Option.isSome_iff_exists.mp hs
  rw [hv]
  exact je_put D0_167 rfl (by decide) (by decide) hv
theorem D0_170 : decode (jt_code 0) 170 = .ok (.aload_n 0, 1) := by decide +kernel
theorem E0_170 {call : jv_F} {l1 : Option Value} {a : Nat} {st : List Value} {h : jv_H} : jv_ev call 0 170 [some (.ref a), l1] st h = jv_ev call 0 171 [some (.ref a), l1] (.ref a :: st) h := je_aload_n (r := some a) D0_170 rfl rfl
theorem D0_171 : decode (jt_code 0) 171 = .ok (.bipush 17, 2) := by decide +kernel
theorem E0_171 {call : jv_F} {l0 l1 : Option Value}  {st : List Value} {h : jv_H} : jv_ev call 0 171 [l0, l1] st h = jv_ev call 0 173 [l0, l1] (.int (nI 17) :: st) h := je_bipush D0_171 rfl (by decide)
theorem D0_173 : decode (jt_code 0) 173 = .ok (.newarray .int, 2) := by decide +kernel
theorem E0_173 {call : jv_F} {l0 l1 : Option Value} {k : Nat} {st : List Value} {h : jv_H} (hk : k ≤ 100000) : jv_ev call 0 173 [l0, l1] (.int (nI k) :: st) h = jv_ev call 0 175 [l0, l1] (.ref h.2.1 :: st) (jv_newa h 0 k (.int 0)) := je_newarray D0_173 rfl (by decide) (by decide) (nI_pos (by omega)) (nI_clamp (by omega)) hk rfl
theorem D0_175 : decode (jt_code 0) 175 = .ok (.putfield 73, 3) := by decide +kernel
theorem E0_175 {call : jv_F} {l0 l1 : Option Value} {a : Nat} {v : Value} {st : List Value} {h : jv_H} (hs : (jv_pf h a 0 24 v).isSome = true) : jv_ev call 0 175 [l0, l1] (v :: .ref a :: st) h = jv_ev call 0 178 [l0, l1] st ((jv_pf h a 0 24 v).getD h) := by
  obtain ⟨h', hv⟩ := Option.isSome_iff_exists.mp hs
  rw [hv]
  exact je_put D0_175 rfl (by decide) (by decide) hv
theorem D0_178 : decode (jt_code 0) 178 = .ok (.aload_n 0, 1) := by decide +kernel
theorem E0_178 {call : jv_F} {l1 : Option Value} {a : Nat} {st : List Value} {h : jv_H} : jv_ev call 0 178 [some (.ref a), l1] st h = jv_ev call 0 179 [some (.ref a), l1] (.ref a :: st) h := je_aload_n (r := some a) D0_178 rfl rfl
theorem D0_179 : decode (jt_code 0) 179 = .ok (.bipush 17, 2) := by decide +kernel
theorem E0_179 {call : jv_F} {l0 l1 : Option Value}  {st : List Value} {h : jv_H} : jv_ev call 0 179 [l0, l1] st h = jv_ev call 0 181 [l0, l1] (.int (nI 17) :: st) h := je_bipush D0_179 rfl (by decide)
theorem D0_181 : decode (jt_code 0) 181 = .ok (.newarray .int, 2) := by decide +kernel
theorem E0_181 {call : jv_F} {l0 l1 : Option Value} {k : Nat} {st : List Value} {h : jv_H} (hk : k ≤ 100000) : jv_ev call 0 181 [l0, l1] (.int (nI k) :: st) h = jv_ev call 0 183 [l0, l1] (.ref h.2.1 :: st) (jv_newa h 0 k (.int 0)) := je_newarray D0_181 rfl (by decide) (by decide) (nI_pos (by omega)) (nI_clamp (by omega)) hk rfl
theorem D0_183 : decode (jt_code 0) 183 = .ok (.putfield 76, 3) := by decide +kernel
theorem E0_183 {call : jv_F} {l0 l1 : Option Value} {a : Nat} {v : Value} {st : List Value} {h : jv_H} (hs : (jv_pf h a 0 25 v).isSome = true) : jv_ev call 0 183 [l0, l1] (v :: .ref a :: st) h = jv_ev call 0 186 [l0, l1] st ((jv_pf h a 0 25 v).getD h) := by
  obtain ⟨h', hv⟩ := Option.isSome_iff_exists.mp hs
  rw [hv]
  exact je_put D0_183 rfl (by decide) (by decide) hv
theorem D0_186 : decode (jt_code 0) 186 = .ok (.aload_n 0, 1) := by decide +kernel
theorem E0_186 {call : jv_F} {l1 : Option Value} {a : Nat} {st : List Value} {h : jv_H} : jv_ev call 0 186 [some (.ref a), l1] st h = jv_ev call 0 187 [some (.ref a), l1] (.ref a :: st) h := je_aload_n (r := some a) D0_186 rfl rfl
theorem D0_187 : decode (jt_code 0) 187 = .ok (.bipush 17, 2) := by decide +kernel
theorem E0_187 {call : jv_F} {l0 l1 : Option Value}  {st : List Value} {h : jv_H} : jv_ev call 0 187 [l0, l1] st h = jv_ev call 0 189 [l0, l1] (.int (nI 17) :: st) h := je_bipush D0_187 rfl (by decide)
theorem D0_189 : decode (jt_code 0) 189 = .ok (.newarray .boolean, 2) := by decide +kernel
theorem E0_189 {call : jv_F} {l0 l1 : Option Value} {k : Nat} {st : List Value} {h : jv_H} (hk : k ≤ 100000) : jv_ev call 0 189 [l0, l1] (.int (nI k) :: st) h = jv_ev call 0 191 [l0, l1] (.ref h.2.1 :: st) (jv_newa h 2 k (.int 0)) := je_newarray D0_189 rfl (by decide) (by decide) (nI_pos (by omega)) (nI_clamp (by omega)) hk rfl
theorem D0_191 : decode (jt_code 0) 191 = .ok (.putfield 79, 3) := by decide +kernel
theorem E0_191 {call : jv_F} {l0 l1 : Option Value} {a : Nat} {v : Value} {st : List Value} {h : jv_H} (hs : (jv_pf h a 0 26 v).isSome = true) : jv_ev call 0 191 [l0, l1] (v :: .ref a :: st) h = jv_ev call 0 194 [l0, l1] st ((jv_pf h a 0 26 v).getD h) := by
  obtain ⟨h', hv⟩ := Option.isSome_iff_exists.mp hs
  rw [hv]
  exact je_put D0_191 rfl (by decide) (by decide) hv
theorem D0_194 : decode (jt_code 0) 194 = .ok (.aload_n 0, 1) := by decide +kernel
theorem E0_194 {call : jv_F} {l1 : Option Value} {a : Nat} {st : List Value} {h : jv_H} : jv_ev call 0 194 [some (.ref a), l1] st h = jv_ev call 0 195 [some (.ref a), l1] (.ref a :: st) h := je_aload_n (r := some a) D0_194 rfl rfl
theorem D0_195 : decode (jt_code 0) 195 = .ok (.bipush 17, 2) := by decide +kernel
theorem E0_195 {call : jv_F} {l0 l1 : Option Value}  {st : List Value} {h : jv_H} : jv_ev call 0 195 [l0, l1] st h = jv_ev call 0 197 [l0, l1] (.int (nI 17) :: st) h := je_bipush D0_195 rfl (by decide)
theorem D0_197 : decode (jt_code 0) 197 = .ok (.newarray .boolean, 2) := by decide +kernel
theorem E0_197 {call : jv_F} {l0 l1 : Option Value} {k : Nat} {st : List Value} {h : jv_H} (hk : k ≤ 100000) : jv_ev call 0 197 [l0, l1] (.int (nI k) :: st) h = jv_ev call 0 199 [l0, l1] (.ref h.2.1 :: st) (jv_newa h 2 k (.int 0)) := je_newarray D0_197 rfl (by decide) (by decide) (nI_pos (by omega)) (nI_clamp (by omega)) hk rfl
theorem D0_199 : decode (jt_code 0) 199 = .ok (.putfield 82, 3) := by decide +kernel
theorem E0_199 {call : jv_F} {l0 l1 : Option Value} {a : Nat} {v : Value} {st : List Value} {h : jv_H} (hs : (jv_pf h a 0 27 v).isSome = true) : jv_ev call 0 199 [l0, l1] (v :: .ref a :: st) h = jv_ev call 0 202 [l0, l1] st ((jv_pf h a 0 27 v).getD h) := by
  obtain ⟨h', hv⟩ := Option.isSome_iff_exists.mp hs
  rw [hv]
  exact je_put D0_199 rfl (by decide) (by decide) hv
theorem D0_202 : decode (jt_code 0) 202 = .ok (.aload_n 0, 1) := by decide +kernel
theorem E0_202 {call : jv_F} {l1 : Option Value} {a : Nat} {st : List Value} {h : jv_H} : jv_ev call 0 202 [some (.ref a), l1] st h = jv_ev call 0 203 [some (.ref a), l1] (.ref a :: st) h := je_aload_n (r := some a) D0_202 rfl rfl
theorem D0_203 : decode (jt_code 0) 203 = .ok (.bipush 64, 2) := by decide +kernel
theorem E0_203 {call : jv_F} {l0 l1 : Option Value}  {st : List Value} {h : jv_H} : jv_ev call 0 203 [l0, l1] st h = jv_ev call 0 205 [l0, l1] (.int (nI 64) :: st) h := je_bipush D0_203 rfl (by decide)
theorem D0_205 : decode (jt_code 0) 205 = .ok (.newarray .int, 2) := by decide +kernel
theorem E0_205 {call : jv_F} {l0 l1 : Option Value} {k : Nat} {st : List Value} {h : jv_H} (hk : k ≤ 100000) : jv_ev call 0 205 [l0, l1] (.int (nI k) :: st) h = jv_ev call 0 207 [l0, l1] (.ref h.2.1 :: st) (jv_newa h 0 k (.int 0)) := je_newarray D0_205 rfl (by decide) (by decide) (nI_pos (by omega)) (nI_clamp (by omega)) hk rfl
theorem D0_207 : decode (jt_code 0) 207 = .ok (.putfield 85, 3) := by decide +kernel
theorem E0_207 {call : jv_F} {l0 l1 : Option Value} {a : Nat} {v : Value} {st : List Value} {h : jv_H} (hs : (jv_pf h a 0 28 v).isSome = true) : jv_ev call 0 207 [l0, l1] (v :: .ref a :: st) h = jv_ev call 0 210 [l0, l1] st ((jv_pf h a 0 28 v).getD h) := by
  obtain ⟨h', hv⟩ := Option.isSome_iff_exists.mp hs
  rw [hv]
  exact je_put D0_207 rfl (by decide) (by decide) hv
theorem D0_210 : decode (jt_code 0) 210 = .ok (.aload_n 0, 1) := by decide +kernel
theorem E0_210 {call : jv_F} {l1 : Option Value} {a : Nat} {st : List Value} {h : jv_H} : jv_ev call 0 210 [some (.ref a), l1] st h = jv_ev call 0 211 [some (.ref a), l1] (.ref a :: st) h := je_aload_n (r := some a) D0_210 rfl rfl
theorem D0_211 : decode (jt_code 0) 211 = .ok (.bipush 18, 2) := by decide +kernel
theorem E0_211 {call : jv_F} {l0 l1 : Option Value}  {st : List Value} {h : jv_H} : jv_ev call 0 211 [l0, l1] st h = jv_ev call 0 213 [l0, l1] (.int (nI 18) :: st) h := je_bipush D0_211 rfl (by decide)
theorem D0_213 : decode (jt_code 0) 213 = .ok (.newarray .int, 2) := by decide +kernel
theorem E0_213 {call : jv_F} {l0 l1 : Option Value} {k : Nat} {st : List Value} {h : jv_H} (hk : k ≤ 100000) : jv_ev call 0 213 [l0, l1] (.int (nI k) :: st) h = jv_ev call 0 215 [l0, l1] (.ref h.2.1 :: st) (jv_newa h 0 k (.int 0)) := je_newarray D0_213 rfl (by decide) (by decide) (nI_pos (by omega)) (nI_clamp (by omega)) hk rfl
theorem D0_215 : decode (jt_code 0) 215 = .ok (.putfield 88, 3) := by decide +kernel
theorem E0_215 {call : jv_F} {l0 l1 : Option Value} {a : Nat} {v : Value} {st : List Value} {h : jv_H} (hs : (jv_pf h a 0 29 v).isSome = true) : jv_ev call 0 215 [l0, l1] (v :: .ref a :: st) h = jv_ev call 0 218 [l0, l1] st ((jv_pf h a 0 29 v).getD h) := by
  obtain ⟨h', hv⟩ := Option.isSome_iff_exists.mp hs
  rw [hv]
  exact je_put D0_215 rfl (by decide) (by decide) hv
theorem D0_218 : decode (jt_code 0) 218 = .ok (.aload_n 0, 1) := by decide +kernel
theorem E0_218 {call : jv_F} {l1 : Option Value} {a : Nat} {st : List Value} {h : jv_H} : jv_ev call 0 218 [some (.ref a), l1] st h = jv_ev call 0 219 [some (.ref a), l1] (.ref a :: st) h := je_aload_n (r := some a) D0_218 rfl rfl
theorem D0_219 : decode (jt_code 0) 219 = .ok (.bipush 18, 2) := by decide +kernel
theorem E0_219 {call : jv_F} {l0 l1 : Option Value}  {st : List Value} {h : jv_H} : jv_ev call 0 219 [l0, l1] st h = jv_ev call 0 221 [l0, l1] (.int (nI 18) :: st) h := je_bipush D0_219 rfl (by decide)
theorem D0_221 : decode (jt_code 0) 221 = .ok (.newarray .int, 2) := by decide +kernel
theorem E0_221 {call : jv_F} {l0 l1 : Option Value} {k : Nat} {st : List Value} {h : jv_H} (hk : k ≤ 100000) : jv_ev call 0 221 [l0, l1] (.int (nI k) :: st) h = jv_ev call 0 223 [l0, l1] (.ref h.2.1 :: st) (jv_newa h 0 k (.int 0)) := je_newarray D0_221 rfl (by decide) (by decide) (nI_pos (by omega)) (nI_clamp (by omega)) hk rfl
theorem D0_223 : decode (jt_code 0) 223 = .ok (.putfield 91, 3) := by decide +kernel
theorem E0_223 {call : jv_F} {l0 l1 : Option Value} {a : Nat} {v : Value} {st : List Value} {h : jv_H} (hs : (jv_pf h a 0 30 v).isSome = true) : jv_ev call 0 223 [l0, l1] (v :: .ref a :: st) h = jv_ev call 0 226 [l0, l1] st ((jv_pf h a 0 30 v).getD h) := by
  obtain ⟨h', hv⟩ := Option.isSome_iff_exists.mp hs
  rw [hv]
  exact je_put D0_223 rfl (by decide) (by decide) hv
theorem D0_226 : decode (jt_code 0) 226 = .ok (.aload_n 0, 1) := by decide +kernel
theorem E0_226 {call : jv_F} {l1 : Option Value} {a : Nat} {st : List Value} {h : jv_H} : jv_ev call 0 226 [some (.ref a), l1] st h = jv_ev call 0 227 [some (.ref a), l1] (.ref a :: st) h := je_aload_n (r := some a) D0_226 rfl rfl
theorem D0_227 : decode (jt_code 0) 227 = .ok (.iconst (-1), 1) := by decide +kernel
theorem E0_227 {call : jv_F} {l0 l1 : Option Value}  {st : List Value} {h : jv_H} : jv_ev call 0 227 [l0, l1] st h = jv_ev call 0 228 [l0, l1] (.int (-1) :: st) h := je_iconst D0_227 rfl (by decide)
theorem D0_228 : decode (jt_code 0) 228 = .ok (.putfield 94, 3) := by decide +kernel
theorem E0_228 {call : jv_F} {l0 l1 : Option Value} {a : Nat} {v : Value} {st : List Value} {h : jv_H} (hs : (jv_pf h a 0 37 v).isSome = true) : jv_ev call 0 228 [l0, l1] (v :: .ref a :: st) h = jv_ev call 0 231 [l0, l1] st ((jv_pf h a 0 37 v).getD h) := by
  obtain ⟨h', hv⟩ := Option.isSome_iff_exists.mp hs
  rw [hv]
  exact je_put D0_228 rfl (by decide) (by decide) hv
theorem D0_231 : decode (jt_code 0) 231 = .ok (.iconst 0, 1) := by decide +kernel
theorem E0_231 {call : jv_F} {l0 l1 : Option Value}  {st : List Value} {h : jv_H} : jv_ev call 0 231 [l0, l1] st h = jv_ev call 0 232 [l0, l1] (.int (nI 0) :: st) h := je_iconst D0_231 rfl (by decide)
theorem D0_232 : decode (jt_code 0) 232 = .ok (.istore_n 1, 1) := by decide +kernel
theorem E0_232 {call : jv_F} {l0 l1 : Option Value} {x : Int32} {st : List Value} {h : jv_H} (hk : ¬ jv_is2 (some l0) = true) : jv_ev call 0 232 [l0, l1] (.int x :: st) h = jv_ev call 0 233 [l0, some (.int x)] st h := je_istore_n D0_232 rfl (Nat.le_of_ble_eq_true rfl) (by show jv_st1 _ 1 _ = _; simp only [jv_st1, jv_kill, List.getElem?_cons_succ, List.getElem?_cons_zero, hk, if_false]; rfl)
theorem D0_233 : decode (jt_code 0) 233 = .ok (.iload_n 1, 1) := by decide +kernel
theorem E0_233 {call : jv_F} {l0 : Option Value} {x : Int32} {st : List Value} {h : jv_H} : jv_ev call 0 233 [l0, some (.int x)] st h = jv_ev call 0 234 [l0, some (.int x)] (.int x :: st) h := je_iload_n D0_233 rfl rfl
theorem D0_234 : decode (jt_code 0) 234 = .ok (.bipush 17, 2) := by decide +kernel
theorem E0_234 {call : jv_F} {l0 l1 : Option Value}  {st : List Value} {h : jv_H} : jv_ev call 0 234 [l0, l1] st h = jv_ev call 0 236 [l0, l1] (.int (nI 17) :: st) h := je_bipush D0_234 rfl (by decide)
theorem D0_236 : decode (jt_code 0) 236 = .ok (.if_icmp .ge 16, 3) := by decide +kernel
theorem E0_236 {call : jv_F} {l0 l1 : Option Value} {x y : Int32} {st : List Value} {h : jv_H} : jv_ev call 0 236 [l0, l1] (.int y :: .int x :: st) h = if y ≤ x then jv_ev call 0 252 [l0, l1] st h else jv_ev call 0 239 [l0, l1] st h := je_icmp D0_236 (by decide) rfl rfl
theorem D0_239 : decode (jt_code 0) 239 = .ok (.aload_n 0, 1) := by decide +kernel
theorem E0_239 {call : jv_F} {l1 : Option Value} {a : Nat} {st : List Value} {h : jv_H} : jv_ev call 0 239 [some (.ref a), l1] st h = jv_ev call 0 240 [some (.ref a), l1] (.ref a :: st) h := je_aload_n (r := some a) D0_239 rfl rfl
theorem D0_240 : decode (jt_code 0) 240 = .ok (.getfield 70, 3) := by decide +kernel
theorem E0_240 {call : jv_F} {l0 l1 : Option Value}  {st : List Value} {m : Nat} {I : Nat → Int32} {A : Nat → Nat → Int32} {L : Nat → Nat → Int64} {rest : Nat → Option jv_C} {z : Nat × Nat} : jv_ev call 0 240 [l0, l1] (.ref m :: st) (jm_H m I A L rest z) = jv_ev call 0 243 [l0, l1] (.ref (m + 19) :: st) (jm_H m I A L rest z) := je_get D0_240 rfl (by decide) jm_g23
theorem D0_243 : decode (jt_code 0) 243 = .ok (.iload_n 1, 1) := by decide +kernel
theorem E0_243 {call : jv_F} {l0 : Option Value} {x : Int32} {st : List Value} {h : jv_H} : jv_ev call 0 243 [l0, some (.int x)] st h = jv_ev call 0 244 [l0, some (.int x)] (.int x :: st) h := je_iload_n D0_243 rfl rfl
theorem D0_244 : decode (jt_code 0) 244 = .ok (.iconst (-1), 1) := by decide +kernel
theorem E0_244 {call : jv_F} {l0 l1 : Option Value}  {st : List Value} {h : jv_H} : jv_ev call 0 244 [l0, l1] st h = jv_ev call 0 245 [l0, l1] (.int (-1) :: st) h := je_iconst D0_244 rfl (by decide)
theorem D0_245 : decode (jt_code 0) 245 = .ok (.iastore, 1) := by decide +kernel
theorem E0_245 {call : jv_F} {l0 l1 : Option Value} {i : Nat} {v : Int32} {st : List Value} {m : Nat} {I : Nat → Int32} {A : Nat → Nat → Int32} {L : Nat → Nat → Int64} {rest : Nat → Option jv_C} {z : Nat × Nat} (hi : i < 17) : jv_ev call 0 245 [l0, l1] (.int v :: .int (nI i) :: .ref (m + 19) :: st) (jm_H m I A L rest z) = jv_ev call 0 246 [l0, l1] st (jm_H m I (va_up A 23 (upd (A 23) i v)) L rest z) := je_iast D0_245 rfl (jm_s23 hi)
theorem D0_246 : decode (jt_code 0) 246 = .ok (.iinc 1 1, 3) := by decide +kernel
theorem E0_246 {call : jv_F} {l0 : Option Value} {x : Int32} {st : List Value} {h : jv_H} (hk : ¬ jv_is2 (some l0) = true) : jv_ev call 0 246 [l0, some (.int x)] st h = jv_ev call 0 249 [l0, some (.int (x + (nI 1)))] st h := je_iinc D0_246 rfl rfl (v := x + (nI 1)) (by rfl) (by show jv_st1 _ 1 _ = _; simp only [jv_st1, jv_kill, List.getElem?_cons_succ, List.getElem?_cons_zero, hk, if_false]; rfl)
theorem D0_249 : decode (jt_code 0) 249 = .ok (.goto (-16), 3) := by decide +kernel
theorem E0_249 {call : jv_F} {l0 l1 : Option Value}  {st : List Value} {h : jv_H} : jv_ev call 0 249 [l0, l1] st h = jv_ev call 0 233 [l0, l1] st h := je_goto D0_249 (by decide)
theorem D0_252 : decode (jt_code 0) 252 = .ok (.iconst 0, 1) := by decide +kernel
theorem E0_252 {call : jv_F} {l0 l1 : Option Value}  {st : List Value} {h : jv_H} : jv_ev call 0 252 [l0, l1] st h = jv_ev call 0 253 [l0, l1] (.int (nI 0) :: st) h := je_iconst D0_252 rfl (by decide)
theorem D0_253 : decode (jt_code 0) 253 = .ok (.istore_n 1, 1) := by decide +kernel
theorem E0_253 {call : jv_F} {l0 l1 : Option Value} {x : Int32} {st : List Value} {h : jv_H} (hk : ¬ jv_is2 (some l0) = true) : jv_ev call 0 253 [l0, l1] (.int x :: st) h = jv_ev call 0 254 [l0, some (.int x)] st h := je_istore_n D0_253 rfl (Nat.le_of_ble_eq_true rfl) (by show jv_st1 _ 1 _ = _; simp only [jv_st1, jv_kill, List.getElem?_cons_succ, List.getElem?_cons_zero, hk, if_false]; rfl)
theorem D0_254 : decode (jt_code 0) 254 = .ok (.iload_n 1, 1) := by decide +kernel
theorem E0_254 {call : jv_F} {l0 : Option Value} {x : Int32} {st : List Value} {h : jv_H} : jv_ev call 0 254 [l0, some (.int x)] st h = jv_ev call 0 255 [l0, some (.int x)] (.int x :: st) h := je_iload_n D0_254 rfl rfl
theorem D0_255 : decode (jt_code 0) 255 = .ok (.bipush 64, 2) := by decide +kernel
theorem E0_255 {call : jv_F} {l0 l1 : Option Value}  {st : List Value} {h : jv_H} : jv_ev call 0 255 [l0, l1] st h = jv_ev call 0 257 [l0, l1] (.int (nI 64) :: st) h := je_bipush D0_255 rfl (by decide)
theorem D0_257 : decode (jt_code 0) 257 = .ok (.if_icmp .ge 16, 3) := by decide +kernel
theorem E0_257 {call : jv_F} {l0 l1 : Option Value} {x y : Int32} {st : List Value} {h : jv_H} : jv_ev call 0 257 [l0, l1] (.int y :: .int x :: st) h = if y ≤ x then jv_ev call 0 273 [l0, l1] st h else jv_ev call 0 260 [l0, l1] st h := je_icmp D0_257 (by decide) rfl rfl
theorem D0_260 : decode (jt_code 0) 260 = .ok (.aload_n 0, 1) := by decide +kernel
theorem E0_260 {call : jv_F} {l1 : Option Value} {a : Nat} {st : List Value} {h : jv_H} : jv_ev call 0 260 [some (.ref a), l1] st h = jv_ev call 0 261 [some (.ref a), l1] (.ref a :: st) h := je_aload_n (r := some a) D0_260 rfl rfl
theorem D0_261 : decode (jt_code 0) 261 = .ok (.getfield 85, 3) := by decide +kernel
theorem E0_261 {call : jv_F} {l0 l1 : Option Value}  {st : List Value} {m : Nat} {I : Nat → Int32} {A : Nat → Nat → Int32} {L : Nat → Nat → Int64} {rest : Nat → Option jv_C} {z : Nat × Nat} : jv_ev call 0 261 [l0, l1] (.ref m :: st) (jm_H m I A L rest z) = jv_ev call 0 264 [l0, l1] (.ref (m + 24) :: st) (jm_H m I A L rest z) := je_get D0_261 rfl (by decide) jm_g28
theorem D0_264 : decode (jt_code 0) 264 = .ok (.iload_n 1, 1) := by decide +kernel
theorem E0_264 {call : jv_F} {l0 : Option Value} {x : Int32} {st : List Value} {h : jv_H} : jv_ev call 0 264 [l0, some (.int x)] st h = jv_ev call 0 265 [l0, some (.int x)] (.int x :: st) h := je_iload_n D0_264 rfl rfl
theorem D0_265 : decode (jt_code 0) 265 = .ok (.iconst (-1), 1) := by decide +kernel
theorem E0_265 {call : jv_F} {l0 l1 : Option Value}  {st : List Value} {h : jv_H} : jv_ev call 0 265 [l0, l1] st h = jv_ev call 0 266 [l0, l1] (.int (-1) :: st) h := je_iconst D0_265 rfl (by decide)
theorem D0_266 : decode (jt_code 0) 266 = .ok (.iastore, 1) := by decide +kernel
theorem E0_266 {call : jv_F} {l0 l1 : Option Value} {i : Nat} {v : Int32} {st : List Value} {m : Nat} {I : Nat → Int32} {A : Nat → Nat → Int32} {L : Nat → Nat → Int64} {rest : Nat → Option jv_C} {z : Nat × Nat} (hi : i < 64) : jv_ev call 0 266 [l0, l1] (.int v :: .int (nI i) :: .ref (m + 24) :: st) (jm_H m I A L rest z) = jv_ev call 0 267 [l0, l1] st (jm_H m I (va_up A 28 (upd (A 28) i v)) L rest z) := je_iast D0_266 rfl (jm_s28 hi)
theorem D0_267 : decode (jt_code 0) 267 = .ok (.iinc 1 1, 3) := by decide +kernel
theorem E0_267 {call : jv_F} {l0 : Option Value} {x : Int32} {st : List Value} {h : jv_H} (hk : ¬ jv_is2 (some l0) = true) : jv_ev call 0 267 [l0, some (.int x)] st h = jv_ev call 0 270 [l0, some (.int (x + (nI 1)))] st h := je_iinc D0_267 rfl rfl (v := x + (nI 1)) (by rfl) (by show jv_st1 _ 1 _ = _; simp only [jv_st1, jv_kill, List.getElem?_cons_succ, List.getElem?_cons_zero, hk, if_false]; rfl)
theorem D0_270 : decode (jt_code 0) 270 = .ok (.goto (-16), 3) := by decide +kernel
theorem E0_270 {call : jv_F} {l0 l1 : Option Value}  {st : List Value} {h : jv_H} : jv_ev call 0 270 [l0, l1] st h = jv_ev call 0 254 [l0, l1] st h := je_goto D0_270 (by decide)
theorem D0_273 : decode (jt_code 0) 273 = .ok (.return_, 1) := by decide +kernel
theorem E0_273 {call : jv_F} {l0 l1 : Option Value}  {h : jv_H} : jv_ev call 0 273 [l0, l1] [] h = some (none, h) := je_ret D0_273 rfl
