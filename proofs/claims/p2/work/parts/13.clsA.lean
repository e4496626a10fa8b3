/-! method 66: DrumMachine$Core.<init> -/
theorem N66 {d : Nat} {b : Nat} {h : jv_H} : jv_run (d + 1) 66 [.ref b] h = jv_ev (jv_run d) 66 0 [some (.ref b)] [] h := jv_run_eq (Nat.le_of_ble_eq_true rfl) rfl
theorem D66_0 : decode (jt_code 66) 0 = .ok (.aload_n 0, 1) := by decide +kernel
theorem E66_0 {call : jv_F} {a : Nat} {st : List Value} {h : jv_H} : jv_ev call 66 0 [some (.ref a)] st h = jv_ev call 66 1 [some (.ref a)] (.ref a :: st) h := je_aload_n (r := some a) D66_0 rfl rfl
theorem D66_1 : decode (jt_code 66) 1 = .ok (.invokespecial 3, 3) := by decide +kernel
theorem E66_1 {call : jv_F} {l0 : Option Value} {b : Nat} {st : List Value} {h : jv_H} (hw : jv_wide st = true) : jv_ev call 66 1 [l0] (.ref b :: st) h = jv_ev call 66 4 [l0] st h := je_obj D66_1 rfl (by decide) hw
theorem D66_4 : decode (jt_code 66) 4 = .ok (.aload_n 0, 1) := by decide +kernel
theorem E66_4 {call : jv_F} {a : Nat} {st : List Value} {h : jv_H} : jv_ev call 66 4 [some (.ref a)] st h = jv_ev call 66 5 [some (.ref a)] (.ref a :: st) h := je_aload_n (r := some a) D66_4 rfl rfl
theorem D66_5 : decode (jt_code 66) 5 = .ok (.bipush 17, 2) := by decide +kernel
theorem E66_5 {call : jv_F} {l0 : Option Value}  {st : List Value} {h : jv_H} : jv_ev call 66 5 [l0] st h = jv_ev call 66 7 [l0] (.int (nI 17) :: st) h := je_bipush D66_5 rfl (by decide)
theorem D66_7 : decode (jt_code 66) 7 = .ok (.anewarray 9, 3) := by decide +kernel
theorem E66_7 {call : jv_F} {l0 : Option Value} {k : Nat} {st : List Value} {h : jv_H} (hk : k ≤ 100000) : jv_ev call 66 7 [l0] (.int (nI k) :: st) h = jv_ev call 66 10 [l0] (.ref h.2.1 :: st) (jv_newa h 3 k .null) := je_anewarray (ci := 1) D66_7 rfl (by decide) (by decide) (by decide) (nI_pos (by omega)) (nI_clamp (by omega)) hk
theorem D66_10 : decode (jt_code 66) 10 = .ok (.putfield 11, 3) := by decide +kernel
theorem E66_10 {call : jv_F} {l0 : Option Value} {a : Nat} {v : Value} {st : List Value} {h : jv_H} (hs : (jv_pf h a 2 0 v).isSome = true) : jv_ev call 66 10 [l0] (v :: .ref a :: st) h = jv_ev call 66 13 [l0] st ((jv_pf h a 2 0 v).getD h) := by
  obtain ⟨h', hv⟩ := Option.isSome_iff_exists.mp hs
  rw [hv]
  exact je_put D66_10 rfl (by decide) (by decide) hv
theorem D66_13 : decode (jt_code 66) 13 = .ok (.aload_n 0, 1) := by decide +kernel
theorem E66_13 {call : jv_F} {a : Nat} {st : List Value} {h : jv_H} : jv_ev call 66 13 [some (.ref a)] st h = jv_ev call 66 14 [some (.ref a)] (.ref a :: st) h := je_aload_n (r := some a) D66_13 rfl rfl
theorem D66_14 : decode (jt_code 66) 14 = .ok (.bipush 7, 2) := by decide +kernel
theorem E66_14 {call : jv_F} {l0 : Option Value}  {st : List Value} {h : jv_H} : jv_ev call 66 14 [l0] st h = jv_ev call 66 16 [l0] (.int (nI 7) :: st) h := je_bipush D66_14 rfl (by decide)
theorem D66_16 : decode (jt_code 66) 16 = .ok (.putfield 17, 3) := by decide +kernel
theorem E66_16 {call : jv_F} {l0 : Option Value} {a : Nat} {v : Value} {st : List Value} {h : jv_H} (hs : (jv_pf h a 2 1 v).isSome = true) : jv_ev call 66 16 [l0] (v :: .ref a :: st) h = jv_ev call 66 19 [l0] st ((jv_pf h a 2 1 v).getD h) := by
  obtain ⟨h', hv⟩ := Option.isSome_iff_exists.mp hs
  rw [hv]
  exact je_put D66_16 rfl (by decide) (by decide) hv
theorem D66_19 : decode (jt_code 66) 19 = .ok (.aload_n 0, 1) := by decide +kernel
theorem E66_19 {call : jv_F} {a : Nat} {st : List Value} {h : jv_H} : jv_ev call 66 19 [some (.ref a)] st h = jv_ev call 66 20 [some (.ref a)] (.ref a :: st) h := je_aload_n (r := some a) D66_19 rfl rfl
theorem D66_20 : decode (jt_code 66) 20 = .ok (.bipush 7, 2) := by decide +kernel
theorem E66_20 {call : jv_F} {l0 : Option Value}  {st : List Value} {h : jv_H} : jv_ev call 66 20 [l0] st h = jv_ev call 66 22 [l0] (.int (nI 7) :: st) h := je_bipush D66_20 rfl (by decide)
theorem D66_22 : decode (jt_code 66) 22 = .ok (.putfield 21, 3) := by decide +kernel
theorem E66_22 {call : jv_F} {l0 : Option Value} {a : Nat} {v : Value} {st : List Value} {h : jv_H} (hs : (jv_pf h a 2 2 v).isSome = true) : jv_ev call 66 22 [l0] (v :: .ref a :: st) h = jv_ev call 66 25 [l0] st ((jv_pf h a 2 2 v).getD h) := by
  obtain ⟨h', hv⟩ := Option.isSome_iff_exists.mp hs
  rw [hv]
  exact je_put D66_22 rfl (by decide) (by decide) hv
theorem D66_25 : decode (jt_code 66) 25 = .ok (.aload_n 0, 1) := by decide +kernel
theorem E66_25 {call : jv_F} {a : Nat} {st : List Value} {h : jv_H} : jv_ev call 66 25 [some (.ref a)] st h = jv_ev call 66 26 [some (.ref a)] (.ref a :: st) h := je_aload_n (r := some a) D66_25 rfl rfl
theorem D66_26 : decode (jt_code 66) 26 = .ok (.iconst 0, 1) := by decide +kernel
theorem E66_26 {call : jv_F} {l0 : Option Value}  {st : List Value} {h : jv_H} : jv_ev call 66 26 [l0] st h = jv_ev call 66 27 [l0] (.int (nI 0) :: st) h := je_iconst D66_26 rfl (by decide)
theorem D66_27 : decode (jt_code 66) 27 = .ok (.putfield 24, 3) := by decide +kernel
theorem E66_27 {call : jv_F} {l0 : Option Value} {a : Nat} {v : Value} {st : List Value} {h : jv_H} (hs : (jv_pf h a 2 3 v).isSome = true) : jv_ev call 66 27 [l0] (v :: .ref a :: st) h = jv_ev call 66 30 [l0] st ((jv_pf h a 2 3 v).getD h) := by
  obtain ⟨h', hv⟩ := Option.isSome_iff_exists.mp hs
  rw [hv]
  exact je_put D66_27 rfl (by decide) (by decide) hv
theorem D66_30 : decode (jt_code 66) 30 = .ok (.return_, 1) := by decide +kernel
theorem E66_30 {call : jv_F} {l0 : Option Value}  {h : jv_H} : jv_ev call 66 30 [l0] [] h = some (none, h) := je_ret D66_30 rfl
/-! method 76: DrumMachine$Drum.<init> -/
theorem N76 {d : Nat} {b : Nat} {h : jv_H} : jv_run (d + 1) 76 [.ref b] h = jv_ev (jv_run d) 76 0 [some (.ref b)] [] h := jv_run_eq (Nat.le_of_ble_eq_true rfl) rfl
theorem D76_0 : decode (jt_code 76) 0 = .ok (.aload_n 0, 1) := by decide +kernel
theorem E76_0 {call : jv_F} {a : Nat} {st : List Value} {h : jv_H} : jv_ev call 76 0 [some (.ref a)] st h = jv_ev call 76 1 [some (.ref a)] (.ref a :: st) h := je_aload_n (r := some a) D76_0 rfl rfl
theorem D76_1 : decode (jt_code 76) 1 = .ok (.invokespecial 3, 3) := by decide +kernel
theorem E76_1 {call : jv_F} {l0 : Option Value} {b : Nat} {st : List Value} {h : jv_H} (hw : jv_wide st = true) : jv_ev call 76 1 [l0] (.ref b :: st) h = jv_ev call 76 4 [l0] st h := je_obj D76_1 rfl (by decide) hw
theorem D76_4 : decode (jt_code 76) 4 = .ok (.aload_n 0, 1) := by decide +kernel
theorem E76_4 {call : jv_F} {a : Nat} {st : List Value} {h : jv_H} : jv_ev call 76 4 [some (.ref a)] st h = jv_ev call 76 5 [some (.ref a)] (.ref a :: st) h := je_aload_n (r := some a) D76_4 rfl rfl
theorem D76_5 : decode (jt_code 76) 5 = .ok (.bipush 64, 2) := by decide +kernel
theorem E76_5 {call : jv_F} {l0 : Option Value}  {st : List Value} {h : jv_H} : jv_ev call 76 5 [l0] st h = jv_ev call 76 7 [l0] (.int (nI 64) :: st) h := je_bipush D76_5 rfl (by decide)
theorem D76_7 : decode (jt_code 76) 7 = .ok (.anewarray 9, 3) := by decide +kernel
theorem E76_7 {call : jv_F} {l0 : Option Value} {k : Nat} {st : List Value} {h : jv_H} (hk : k ≤ 100000) : jv_ev call 76 7 [l0] (.int (nI k) :: st) h = jv_ev call 76 10 [l0] (.ref h.2.1 :: st) (jv_newa h 3 k .null) := je_anewarray (ci := 1) D76_7 rfl (by decide) (by decide) (by decide) (nI_pos (by omega)) (nI_clamp (by omega)) hk
theorem D76_10 : decode (jt_code 76) 10 = .ok (.putfield 11, 3) := by decide +kernel
theorem E76_10 {call : jv_F} {l0 : Option Value} {a : Nat} {v : Value} {st : List Value} {h : jv_H} (hs : (jv_pf h a 3 0 v).isSome = true) : jv_ev call 76 10 [l0] (v :: .ref a :: st) h = jv_ev call 76 13 [l0] st ((jv_pf h a 3 0 v).getD h) := by
  obtain ⟨h', hv⟩ := Option.isSome_iff_exists.mp hs
  rw [hv]
  exact je_put D76_10 rfl (by decide) (by decide) hv
theorem D76_13 : decode (jt_code 76) 13 = .ok (.aload_n 0, 1) := by decide +kernel
theorem E76_13 {call : jv_F} {a : Nat} {st : List Value} {h : jv_H} : jv_ev call 76 13 [some (.ref a)] st h = jv_ev call 76 14 [some (.ref a)] (.ref a :: st) h := je_aload_n (r := some a) D76_13 rfl rfl
theorem D76_14 : decode (jt_code 76) 14 = .ok (.bipush 17, 2) := by decide +kernel
theorem E76_14 {call : jv_F} {l0 : Option Value}  {st : List Value} {h : jv_H} : jv_ev call 76 14 [l0] st h = jv_ev call 76 16 [l0] (.int (nI 17) :: st) h := je_bipush D76_14 rfl (by decide)
theorem D76_16 : decode (jt_code 76) 16 = .ok (.anewarray 9, 3) := by decide +kernel
theorem E76_16 {call : jv_F} {l0 : Option Value} {k : Nat} {st : List Value} {h : jv_H} (hk : k ≤ 100000) : jv_ev call 76 16 [l0] (.int (nI k) :: st) h = jv_ev call 76 19 [l0] (.ref h.2.1 :: st) (jv_newa h 3 k .null) := je_anewarray (ci := 1) D76_16 rfl (by decide) (by decide) (by decide) (nI_pos (by omega)) (nI_clamp (by omega)) hk
theorem D76_19 : decode (jt_code 76) 19 = .ok (.putfield 17, 3) := by decide +kernel
theorem E76_19 {call : jv_F} {l0 : Option Value} {a : Nat} {v : Value} {st : List Value} {h : jv_H} (hs : (jv_pf h a 3 1 v).isSome = true) : jv_ev call 76 19 [l0] (v :: .ref a :: st) h = jv_ev call 76 22 [l0] st ((jv_pf h a 3 1 v).getD h) := by
  obtain ⟨h', hv⟩ := Option.isSome_iff_exists.mp hs
  rw [hv]
  exact je_put D76_19 rfl (by decide) (by decide) hv
theorem D76_22 : decode (jt_code 76) 22 = .ok (.aload_n 0, 1) := by decide +kernel
theorem E76_22 {call : jv_F} {a : Nat} {st : List Value} {h : jv_H} : jv_ev call 76 22 [some (.ref a)] st h = jv_ev call 76 23 [some (.ref a)] (.ref a :: st) h := je_aload_n (r := some a) D76_22 rfl rfl
theorem D76_23 : decode (jt_code 76) 23 = .ok (.iconst 0, 1) := by decide +kernel
theorem E76_23 {call : jv_F} {l0 : Option Value}  {st : List Value} {h : jv_H} : jv_ev call 76 23 [l0] st h = jv_ev call 76 24 [l0] (.int (nI 0) :: st) h := je_iconst D76_23 rfl (by decide)
theorem D76_24 : decode (jt_code 76) 24 = .ok (.putfield 20, 3) := by decide +kernel
theorem E76_24 {call : jv_F} {l0 : Option Value} {a : Nat} {v : Value} {st : List Value} {h : jv_H} (hs : (jv_pf h a 3 2 v).isSome = true) : jv_ev call 76 24 [l0] (v :: .ref a :: st) h = jv_ev call 76 27 [l0] st ((jv_pf h a 3 2 v).getD h) := by
  obtain ⟨h', hv⟩ := Option.isSome_iff_exists.mp hs
  rw [hv]
  exact je_put D76_24 rfl (by decide) (by decide) hv
theorem D76_27 : decode (jt_code 76) 27 = .ok (.aload_n 0, 1) := by decide +kernel
theorem E76_27 {call : jv_F} {a : Nat} {st : List Value} {h : jv_H} : jv_ev call 76 27 [some (.ref a)] st h = jv_ev call 76 28 [some (.ref a)] (.ref a :: st) h := je_aload_n (r := some a) D76_27 rfl rfl
theorem D76_28 : decode (jt_code 76) 28 = .ok (.aconst_null, 1) := by decide +kernel
theorem E76_28 {call : jv_F} {l0 : Option Value}  {st : List Value} {h : jv_H} : jv_ev call 76 28 [l0] st h = jv_ev call 76 29 [l0] (.null :: st) h := je_null D76_28 rfl
theorem D76_29 : decode (jt_code 76) 29 = .ok (.putfield 24, 3) := by decide +kernel
theorem E76_29 {call : jv_F} {l0 : Option Value} {a : Nat} {v : Value} {st : List Value} {h : jv_H} (hs : (jv_pf h a 3 3 v).isSome = true) : jv_ev call 76 29 [l0] (v :: .ref a :: st) h = jv_ev call 76 32 [l0] st ((jv_pf h a 3 3 v).getD h) := by
  obtain ⟨h', hv⟩ := Option.isSome_iff_exists.mp hs
  rw [hv]
  exact je_put D76_29 rfl (by decide) (by decide) hv
theorem D76_32 : decode (jt_code 76) 32 = .ok (.aload_n 0, 1) := by decide +kernel
theorem E76_32 {call : jv_F} {a : Nat} {st : List Value} {h : jv_H} : jv_ev call 76 32 [some (.ref a)] st h = jv_ev call 76 33 [some (.ref a)] (.ref a :: st) h := je_aload_n (r := some a) D76_32 rfl rfl
theorem D76_33 : decode (jt_code 76) 33 = .ok (.iconst 0, 1) := by decide +kernel
theorem E76_33 {call : jv_F} {l0 : Option Value}  {st : List Value} {h : jv_H} : jv_ev call 76 33 [l0] st h = jv_ev call 76 34 [l0] (.int (nI 0) :: st) h := je_iconst D76_33 rfl (by decide)
theorem D76_34 : decode (jt_code 76) 34 = .ok (.putfield 28, 3) := by decide +kernel
theorem E76_34 {call : jv_F} {l0 : Option Value} {a : Nat} {v : Value} {st : List Value} {h : jv_H} (hs : (jv_pf h a 3 4 v).isSome = true) : jv_ev call 76 34 [l0] (v :: .ref a :: st) h = jv_ev call 76 37 [l0] st ((jv_pf h a 3 4 v).getD h) := by
  obtain ⟨h', hv⟩ := Option.isSome_iff_exists.mp hs
  rw [hv]
  exact je_put D76_34 rfl (by decide) (by decide) hv
theorem D76_37 : decode (jt_code 76) 37 = .ok (.aload_n 0, 1) := by decide +kernel
theorem E76_37 {call : jv_F} {a : Nat} {st : List Value} {h : jv_H} : jv_ev call 76 37 [some (.ref a)] st h = jv_ev call 76 38 [some (.ref a)] (.ref a :: st) h := je_aload_n (r := some a) D76_37 rfl rfl
theorem D76_38 : decode (jt_code 76) 38 = .ok (.iconst 0, 1) := by decide +kernel
theorem E76_38 {call : jv_F} {l0 : Option Value}  {st : List Value} {h : jv_H} : jv_ev call 76 38 [l0] st h = jv_ev call 76 39 [l0] (.int (nI 0) :: st) h := je_iconst D76_38 rfl (by decide)
theorem D76_39 : decode (jt_code 76) 39 = .ok (.putfield 31, 3) := by decide +kernel
theorem E76_39 {call : jv_F} {l0 : Option Value} {a : Nat} {v : Value} {st : List Value} {h : jv_H} (hs : (jv_pf h a 3 5 v).isSome = true) : jv_ev call 76 39 [l0] (v :: .ref a :: st) h = jv_ev call 76 42 [l0] st ((jv_pf h a 3 5 v).getD h) := by
  obtain ⟨h', hv⟩ := Option.isSome_iff_exists.mp hs
  rw [hv]
  exact je_put D76_39 rfl (by decide) (by decide) hv
theorem D76_42 : decode (jt_code 76) 42 = .ok (.aload_n 0, 1) := by decide +kernel
theorem E76_42 {call : jv_F} {a : Nat} {st : List Value} {h : jv_H} : jv_ev call 76 42 [some (.ref a)] st h = jv_ev call 76 43 [some (.ref a)] (.ref a :: st) h := je_aload_n (r := some a) D76_42 rfl rfl
theorem D76_43 : decode (jt_code 76) 43 = .ok (.iconst 0, 1) := by decide +kernel
theorem E76_43 {call : jv_F} {l0 : Option Value}  {st : List Value} {h : jv_H} : jv_ev call 76 43 [l0] st h = jv_ev call 76 44 [l0] (.int (nI 0) :: st) h := je_iconst D76_43 rfl (by decide)
theorem D76_44 : decode (jt_code 76) 44 = .ok (.putfield 35, 3) := by decide +kernel
theorem E76_44 {call : jv_F} {l0 : Option Value} {a : Nat} {v : Value} {st : List Value} {h : jv_H} (hs : (jv_pf h a 3 6 v).isSome = true) : jv_ev call 76 44 [l0] (v :: .ref a :: st) h = jv_ev call 76 47 [l0] st ((jv_pf h a 3 6 v).getD h) := by
  obtain ⟨h', hv⟩ := Option.isSome_iff_exists.mp hs
  rw [hv]
  exact je_put D76_44 rfl (by decide) (by decide) hv
theorem D76_47 : decode (jt_code 76) 47 = .ok (.aload_n 0, 1) := by decide +kernel
theorem E76_47 {call : jv_F} {a : Nat} {st : List Value} {h : jv_H} : jv_ev call 76 47 [some (.ref a)] st h = jv_ev call 76 48 [some (.ref a)] (.ref a :: st) h := je_aload_n (r := some a) D76_47 rfl rfl
theorem D76_48 : decode (jt_code 76) 48 = .ok (.iconst 0, 1) := by decide +kernel
theorem E76_48 {call : jv_F} {l0 : Option Value}  {st : List Value} {h : jv_H} : jv_ev call 76 48 [l0] st h = jv_ev call 76 49 [l0] (.int (nI 0) :: st) h := je_iconst D76_48 rfl (by decide)
theorem D76_49 : decode (jt_code 76) 49 = .ok (.putfield 38, 3) := by decide +kernel
theorem E76_49 {call : jv_F} {l0 : Option Value} {a : Nat} {v : Value} {st : List Value} {h : jv_H} (hs : (jv_pf h a 3 7 v).isSome = true) : jv_ev call 76 49 [l0] (v :: .ref a :: st) h = jv_ev call 76 52 [l0] st ((jv_pf h a 3 7 v).getD h) := by
  obtain ⟨h', hv⟩ := Option.isSome_iff_exists.mp hs
  rw [hv]
  exact je_put D76_49 rfl (by decide) (by decide) hv
theorem D76_52 : decode (jt_code 76) 52 = .ok (.return_, 1) := by decide +kernel
theorem E76_52 {call : jv_F} {l0 : Option Value}  {h : jv_H} : jv_ev call 76 52 [l0] [] h = some (none, h) := je_ret D76_52 rfl
/-! method 116: DrumMachine$Tray.<init> -/
theorem N116 {d : Nat} {b : Nat} {h : jv_H} : jv_run (d + 1) 116 [.ref b] h = jv_ev (jv_run d) 116 0 [some (.ref b)] [] h := jv_run_eq (Nat.le_of_ble_eq_true rfl) rfl
theorem D116_0 : decode (jt_code 116) 0 = .ok (.aload_n 0, 1) := by decide +kernel
theorem E116_0 {call : jv_F} {a : Nat} {st : List Value} {h : jv_H} : jv_ev call 116 0 [some (.ref a)] st h = jv_ev call 116 1 [some (.ref a)] (.ref a :: st) h := je_aload_n (r := some a) D116_0 rfl rfl
theorem D116_1 : decode (jt_code 116) 1 = .ok (.invokespecial 3, 3) := by decide +kernel
theorem E116_1 {call : jv_F} {l0 : Option Value} {b : Nat} {st : List Value} {h : jv_H} (hw : jv_wide st = true) : jv_ev call 116 1 [l0] (.ref b :: st) h = jv_ev call 116 4 [l0] st h := je_obj D116_1 rfl (by decide) hw
theorem D116_4 : decode (jt_code 116) 4 = .ok (.aload_n 0, 1) := by decide +kernel
theorem E116_4 {call : jv_F} {a : Nat} {st : List Value} {h : jv_H} : jv_ev call 116 4 [some (.ref a)] st h = jv_ev call 116 5 [some (.ref a)] (.ref a :: st) h := je_aload_n (r := some a) D116_4 rfl rfl
theorem D116_5 : decode (jt_code 116) 5 = .ok (.sipush 1000, 3) := by decide +kernel
theorem E116_5 {call : jv_F} {l0 : Option Value}  {st : List Value} {h : jv_H} : jv_ev call 116 5 [l0] st h = jv_ev call 116 8 [l0] (.int (nI 1000) :: st) h := je_sipush D116_5 rfl (by decide)
theorem D116_8 : decode (jt_code 116) 8 = .ok (.newarray .long, 2) := by decide +kernel
theorem E116_8 {call : jv_F} {l0 : Option Value} {k : Nat} {st : List Value} {h : jv_H} (hk : k ≤ 100000) : jv_ev call 116 8 [l0] (.int (nI k) :: st) h = jv_ev call 116 10 [l0] (.ref h.2.1 :: st) (jv_newa h 1 k (.long 0)) := je_newarray D116_8 rfl (by decide) (by decide) (nI_pos (by omega)) (nI_clamp (by omega)) hk rfl
theorem D116_10 : decode (jt_code 116) 10 = .ok (.putfield 9, 3) := by decide +kernel
theorem E116_10 {call : jv_F} {l0 : Option Value} {a : Nat} {v : Value} {st : List Value} {h : jv_H} (hs : (jv_pf h a 5 0 v).isSome = true) : jv_ev call 116 10 [l0] (v :: .ref a :: st) h = jv_ev call 116 13 [l0] st ((jv_pf h a 5 0 v).getD h) := by
  obtain ⟨h', hv⟩ := Option.isSome_iff_exists.mp hs
  rw [hv]
  exact je_put D116_10 rfl (by decide) (by decide) hv
theorem D116_13 : decode (jt_code 116) 13 = .ok (.aload_n 0, 1) := by decide +kernel
theorem E116_13 {call : jv_F} {a : Nat} {st : List Value} {h : jv_H} : jv_ev call 116 13 [some (.ref a)] st h = jv_ev call 116 14 [some (.ref a)] (.ref a :: st) h := je_aload_n (r := some a) D116_13 rfl rfl
theorem D116_14 : decode (jt_code 116) 14 = .ok (.sipush 2000, 3) := by decide +kernel
theorem E116_14 {call : jv_F} {l0 : Option Value}  {st : List Value} {h : jv_H} : jv_ev call 116 14 [l0] st h = jv_ev call 116 17 [l0] (.int (nI 2000) :: st) h := je_sipush D116_14 rfl (by decide)
theorem D116_17 : decode (jt_code 116) 17 = .ok (.newarray .int, 2) := by decide +kernel
theorem E116_17 {call : jv_F} {l0 : Option Value} {k : Nat} {st : List Value} {h : jv_H} (hk : k ≤ 100000) : jv_ev call 116 17 [l0] (.int (nI k) :: st) h = jv_ev call 116 19 [l0] (.ref h.2.1 :: st) (jv_newa h 0 k (.int 0)) := je_newarray D116_17 rfl (by decide) (by decide) (nI_pos (by omega)) (nI_clamp (by omega)) hk rfl
theorem D116_19 : decode (jt_code 116) 19 = .ok (.putfield 15, 3) := by decide +kernel
theorem E116_19 {call : jv_F} {l0 : Option Value} {a : Nat} {v : Value} {st : List Value} {h : jv_H} (hs : (jv_pf h a 5 1 v).isSome = true) : jv_ev call 116 19 [l0] (v :: .ref a :: st) h = jv_ev call 116 22 [l0] st ((jv_pf h a 5 1 v).getD h) := by
  obtain ⟨h', hv⟩ := Option.isSome_iff_exists.mp hs
  rw [hv]
  exact je_put D116_19 rfl (by decide) (by decide) hv
theorem D116_22 : decode (jt_code 116) 22 = .ok (.aload_n 0, 1) := by decide +kernel
theorem E116_22 {call : jv_F} {a : Nat} {st : List Value} {h : jv_H} : jv_ev call 116 22 [some (.ref a)] st h = jv_ev call 116 23 [some (.ref a)] (.ref a :: st) h := je_aload_n (r := some a) D116_22 rfl rfl
theorem D116_23 : decode (jt_code 116) 23 = .ok (.iconst 0, 1) := by decide +kernel
theorem E116_23 {call : jv_F} {l0 : Option Value}  {st : List Value} {h : jv_H} : jv_ev call 116 23 [l0] st h = jv_ev call 116 24 [l0] (.int (nI 0) :: st) h := je_iconst D116_23 rfl (by decide)
theorem D116_24 : decode (jt_code 116) 24 = .ok (.putfield 19, 3) := by decide +kernel
theorem E116_24 {call : jv_F} {l0 : Option Value} {a : Nat} {v : Value} {st : List Value} {h : jv_H} (hs : (jv_pf h a 5 2 v).isSome = true) : jv_ev call 116 24 [l0] (v :: .ref a :: st) h = jv_ev call 116 27 [l0] st ((jv_pf h a 5 2 v).getD h) := by
  obtain ⟨h', hv⟩ := Option.isSome_iff_exists.mp hs
  rw [hv]
  exact je_put D116_24 rfl (by decide) (by decide) hv
theorem D116_27 : decode (jt_code 116) 27 = .ok (.aload_n 0, 1) := by decide +kernel
theorem E116_27 {call : jv_F} {a : Nat} {st : List Value} {h : jv_H} : jv_ev call 116 27 [some (.ref a)] st h = jv_ev call 116 28 [some (.ref a)] (.ref a :: st) h := je_aload_n (r := some a) D116_27 rfl rfl
theorem D116_28 : decode (jt_code 116) 28 = .ok (.iconst 0, 1) := by decide +kernel
theorem E116_28 {call : jv_F} {l0 : Option Value}  {st : List Value} {h : jv_H} : jv_ev call 116 28 [l0] st h = jv_ev call 116 29 [l0] (.int (nI 0) :: st) h := je_iconst D116_28 rfl (by decide)
theorem D116_29 : decode (jt_code 116) 29 = .ok (.putfield 23, 3) := by decide +kernel
theorem E116_29 {call : jv_F} {l0 : Option Value} {a : Nat} {v : Value} {st : List Value} {h : jv_H} (hs : (jv_pf h a 5 3 v).isSome = true) : jv_ev call 116 29 [l0] (v :: .ref a :: st) h = jv_ev call 116 32 [l0] st ((jv_pf h a 5 3 v).getD h) := by
  obtain ⟨h', hv⟩ := Option.isSome_iff_exists.mp hs
  rw [hv]
  exact je_put D116_29 rfl (by decide) (by decide) hv
theorem D116_32 : decode (jt_code 116) 32 = .ok (.return_, 1) := by decide +kernel
theorem E116_32 {call : jv_F} {l0 : Option Value}  {h : jv_H} : jv_ev call 116 32 [l0] [] h = some (none, h) := je_ret D116_32 rfl
/-! method 122: DrumMachine.<init> -/
theorem N122 {d : Nat} {b : Nat} {h : jv_H} : jv_run (d + 1) 122 [.ref b] h = jv_ev (jv_run d) 122 0 [some (.ref b)] [] h := jv_run_eq (Nat.le_of_ble_eq_true rfl) rfl
theorem D122_0 : decode (jt_code 122) 0 = .ok (.aload_n 0, 1) := by decide +kernel
theorem E122_0 {call : jv_F} {a : Nat} {st : List Value} {h : jv_H} : jv_ev call 122 0 [some (.ref a)] st h = jv_ev call 122 1 [some (.ref a)] (.ref a :: st) h := je_aload_n (r := some a) D122_0 rfl rfl
theorem D122_1 : decode (jt_code 122) 1 = .ok (.invokespecial 3, 3) := by decide +kernel
theorem E122_1 {call : jv_F} {l0 : Option Value} {b : Nat} {st : List Value} {h : jv_H} (hw : jv_wide st = true) : jv_ev call 122 1 [l0] (.ref b :: st) h = jv_ev call 122 4 [l0] st h := je_obj D122_1 rfl (by decide) hw
theorem D122_4 : decode (jt_code 122) 4 = .ok (.aload_n 0, 1) := by decide +kernel
theorem E122_4 {call : jv_F} {a : Nat} {st : List Value} {h : jv_H} : jv_ev call 122 4 [some (.ref a)] st h = jv_ev call 122 5 [some (.ref a)] (.ref a :: st) h := je_aload_n (r := some a) D122_4 rfl rfl
theorem D122_5 : decode (jt_code 122) 5 = .ok (.new 9, 3) := by decide +kernel
theorem E122_5 {call : jv_F} {l0 : Option Value}  {st : List Value} {h : jv_H} : jv_ev call 122 5 [l0] st h = jv_ev call 122 8 [l0] (.ref h.2.1 :: st) (jv_new h 5) := je_new D122_5 rfl (by decide) (by decide)
theorem D122_8 : decode (jt_code 122) 8 = .ok (.dup, 1) := by decide +kernel
theorem E122_8 {call : jv_F} {l0 : Option Value} {a : Nat} {st : List Value} {h : jv_H} : jv_ev call 122 8 [l0] (.ref a :: st) h = jv_ev call 122 9 [l0] (.ref a :: .ref a :: st) h := je_dup D122_8 rfl rfl
theorem E122_8i {call : jv_F} {l0 : Option Value} {x : Int32} {st : List Value} {h : jv_H} : jv_ev call 122 8 [l0] (.int x :: st) h = jv_ev call 122 9 [l0] (.int x :: .int x :: st) h := je_dup D122_8 rfl rfl
theorem D122_9 : decode (jt_code 122) 9 = .ok (.invokespecial 11, 3) := by decide +kernel
theorem E122_9 {call : jv_F} {l0 : Option Value} {b : Nat}  {st : List Value} {h : jv_H} (hw : jv_wide st = true) (hc : (call 116 [.ref b] h).isSome = true) : jv_ev call 122 9 [l0] (.ref b :: st) h = jv_ev call 122 12 [l0] ((((call 116 [.ref b] h).getD (none, h)).1).toList ++ st) ((call 116 [.ref b] h).getD (none, h)).2 := by
  obtain ⟨⟨r, h'⟩, hv⟩ := Option.isSome_iff_exists.mp hc
  rw [hv]
  exact je_spec (y := 116) (as := []) D122_9 rfl (by decide) (by decide) (by decide) rfl hw hv
theorem D122_12 : decode (jt_code 122) 12 = .ok (.putfield 12, 3) := by decide +kernel
theorem E122_12 {call : jv_F} {l0 : Option Value} {a : Nat} {v : Value} {st : List Value} {h : jv_H} (hs : (jv_pf h a 6 0 v).isSome = true) : jv_ev call 122 12 [l0] (v :: .ref a :: st) h = jv_ev call 122 15 [l0] st ((jv_pf h a 6 0 v).getD h) := by
  obtain ⟨h', hv⟩ := Option.isSome_iff_exists.mp hs
  rw [hv]
  exact je_put D122_12 rfl (by decide) (by decide) hv
theorem D122_15 : decode (jt_code 122) 15 = .ok (.aload_n 0, 1) := by decide +kernel
theorem E122_15 {call : jv_F} {a : Nat} {st : List Value} {h : jv_H} : jv_ev call 122 15 [some (.ref a)] st h = jv_ev call 122 16 [some (.ref a)] (.ref a :: st) h := je_aload_n (r := some a) D122_15 rfl rfl
theorem D122_16 : decode (jt_code 122) 16 = .ok (.new 16, 3) := by decide +kernel
theorem E122_16 {call : jv_F} {l0 : Option Value}  {st : List Value} {h : jv_H} : jv_ev call 122 16 [l0] st h = jv_ev call 122 19 [l0] (.ref h.2.1 :: st) (jv_new h 2) := je_new D122_16 rfl (by decide) (by decide)
theorem D122_19 : decode (jt_code 122) 19 = .ok (.dup, 1) := by decide +kernel
theorem E122_19 {call : jv_F} {l0 : Option Value} {a : Nat} {st : List Value} {h : jv_H} : jv_ev call 122 19 [l0] (.ref a :: st) h = jv_ev call 122 20 [l0] (.ref a :: .ref a :: st) h := je_dup D122_19 rfl rfl
theorem E122_19i {call : jv_F} {l0 : Option Value} {x : Int32} {st : List Value} {h : jv_H} : jv_ev call 122 19 [l0] (.int x :: st) h = jv_ev call 122 20 [l0] (.int x :: .int x :: st) h := je_dup D122_19 rfl rfl
theorem D122_20 : decode (jt_code 122) 20 = .ok (.invokespecial 18, 3) := by decide +kernel
theorem E122_20 {call : jv_F} {l0 : Option Value} {b : Nat}  {st : List Value} {h : jv_H} (hw : jv_wide st = true) (hc : (call 66 [.ref b] h).isSome = true) : jv_ev call 122 20 [l0] (.ref b :: st) h = jv_ev call 122 23 [l0] ((((call 66 [.ref b] h).getD (none, h)).1).toList ++ st) ((call 66 [.ref b] h).getD (none, h)).2 := by
  obtain ⟨⟨r, h'⟩, hv⟩ := Option.isSome_iff_exists.mp hc
  rw [hv]
  exact je_spec (y := 66) (as := []) D122_20 rfl (by decide) (by decide) (by decide) rfl hw hv
theorem D122_23 : decode (jt_code 122) 23 = .ok (.putfield 19, 3) := by decide +kernel
theorem E122_23 {call : jv_F} {l0 : Option Value} {a : Nat} {v : Value} {st : List Value} {h : jv_H} (hs : (jv_pf h a 6 1 v).isSome = true) : jv_ev call 122 23 [l0] (v :: .ref a :: st) h = jv_ev call 122 26 [l0] st ((jv_pf h a 6 1 v).getD h) := by
  obtain ⟨h', hv⟩ := Option.isSome_iff_exists.mp hs
  rw [hv]
  exact je_put D122_23 rfl (by decide) (by decide) hv
theorem D122_26 : decode (jt_code 122) 26 = .ok (.aload_n 0, 1) := by decide +kernel
theorem E122_26 {call : jv_F} {a : Nat} {st : List Value} {h : jv_H} : jv_ev call 122 26 [some (.ref a)] st h = jv_ev call 122 27 [some (.ref a)] (.ref a :: st) h := je_aload_n (r := some a) D122_26 rfl rfl
theorem D122_27 : decode (jt_code 122) 27 = .ok (.new 23, 3) := by decide +kernel
theorem E122_27 {call : jv_F} {l0 : Option Value}  {st : List Value} {h : jv_H} : jv_ev call 122 27 [l0] st h = jv_ev call 122 30 [l0] (.ref h.2.1 :: st) (jv_new h 3) := je_new D122_27 rfl (by decide) (by decide)
theorem D122_30 : decode (jt_code 122) 30 = .ok (.dup, 1) := by decide +kernel
theorem E122_30 {call : jv_F} {l0 : Option Value} {a : Nat} {st : List Value} {h : jv_H} : jv_ev call 122 30 [l0] (.ref a :: st) h = jv_ev call 122 31 [l0] (.ref a :: .ref a :: st) h := je_dup D122_30 rfl rfl
theorem E122_30i {call : jv_F} {l0 : Option Value} {x : Int32} {st : List Value} {h : jv_H} : jv_ev call 122 30 [l0] (.int x :: st) h = jv_ev call 122 31 [l0] (.int x :: .int x :: st) h := je_dup D122_30 rfl rfl
theorem D122_31 : decode (jt_code 122) 31 = .ok (.invokespecial 25, 3) := by decide +kernel
theorem E122_31 {call : jv_F} {l0 : Option Value} {b : Nat}  {st : List Value} {h : jv_H} (hw : jv_wide st = true) (hc : (call 76 [.ref b] h).isSome = true) : jv_ev call 122 31 [l0] (.ref b :: st) h = jv_ev call 122 34 [l0] ((((call 76 [.ref b] h).getD (none, h)).1).toList ++ st) ((call 76 [.ref b] h).getD (none, h)).2 := by
  obtain ⟨⟨r, h'⟩, hv⟩ := Option.isSome_iff_exists.mp hc
  rw [hv]
  exact je_spec (y := 76) (as := []) D122_31 rfl (by decide) (by decide) (by decide) rfl hw hv
theorem D122_34 : decode (jt_code 122) 34 = .ok (.putfield 26, 3) := by decide +kernel
theorem E122_34 {call : jv_F} {l0 : Option Value} {a : Nat} {v : Value} {st : List Value} {h : jv_H} (hs : (jv_pf h a 6 2 v).isSome = true) : jv_ev call 122 34 [l0] (v :: .ref a :: st) h = jv_ev call 122 37 [l0] st ((jv_pf h a 6 2 v).getD h) := by
  obtain ⟨h', hv⟩ := Option.isSome_iff_exists.mp hs
  rw [hv]
  exact je_put D122_34 rfl (by decide) (by decide) hv
theorem D122_37 : decode (jt_code 122) 37 = .ok (.aload_n 0, 1) := by decide +kernel
theorem E122_37 {call : jv_F} {a : Nat} {st : List Value} {h : jv_H} : jv_ev call 122 37 [some (.ref a)] st h = jv_ev call 122 38 [some (.ref a)] (.ref a :: st) h := je_aload_n (r := some a) D122_37 rfl rfl
theorem D122_38 : decode (jt_code 122) 38 = .ok (.bipush 12, 2) := by decide +kernel
theorem E122_38 {call : jv_F} {l0 : Option Value}  {st : List Value} {h : jv_H} : jv_ev call 122 38 [l0] st h = jv_ev call 122 40 [l0] (.int (nI 12) :: st) h := je_bipush D122_38 rfl (by decide)
theorem D122_40 : decode (jt_code 122) 40 = .ok (.anewarray 30, 3) := by decide +kernel
theorem E122_40 {call : jv_F} {l0 : Option Value} {k : Nat} {st : List Value} {h : jv_H} (hk : k ≤ 100000) : jv_ev call 122 40 [l0] (.int (nI k) :: st) h = jv_ev call 122 43 [l0] (.ref h.2.1 :: st) (jv_newa h 4 k .null) := je_anewarray (ci := 4) D122_40 rfl (by decide) (by decide) (by decide) (nI_pos (by omega)) (nI_clamp (by omega)) hk
theorem D122_43 : decode (jt_code 122) 43 = .ok (.putfield 32, 3) := by decide +kernel
theorem E122_43 {call : jv_F} {l0 : Option Value} {a : Nat} {v : Value} {st : List Value} {h : jv_H} (hs : (jv_pf h a 6 3 v).isSome = true) : jv_ev call 122 43 [l0] (v :: .ref a :: st) h = jv_ev call 122 46 [l0] st ((jv_pf h a 6 3 v).getD h) := by
  obtain ⟨h', hv⟩ := Option.isSome_iff_exists.mp hs
  rw [hv]
  exact je_put D122_43 rfl (by decide) (by decide) hv
theorem D122_46 : decode (jt_code 122) 46 = .ok (.aload_n 0, 1) := by decide +kernel
theorem E122_46 {call : jv_F} {a : Nat} {st : List Value} {h : jv_H} : jv_ev call 122 46 [some (.ref a)] st h = jv_ev call 122 47 [some (.ref a)] (.ref a :: st) h := je_aload_n (r := some a) D122_46 rfl rfl
theorem D122_47 : decode (jt_code 122) 47 = .ok (.iconst 0, 1) := by decide +kernel
theorem E122_47 {call : jv_F} {l0 : Option Value}  {st : List Value} {h : jv_H} : jv_ev call 122 47 [l0] st h = jv_ev call 122 48 [l0] (.int (nI 0) :: st) h := je_iconst D122_47 rfl (by decide)
theorem D122_48 : decode (jt_code 122) 48 = .ok (.putfield 36, 3) := by decide +kernel
theorem E122_48 {call : jv_F} {l0 : Option Value} {a : Nat} {v : Value} {st : List Value} {h : jv_H} (hs : (jv_pf h a 6 4 v).isSome = true) : jv_ev call 122 48 [l0] (v :: .ref a :: st) h = jv_ev call 122 51 [l0] st ((jv_pf h a 6 4 v).getD h) := by
  obtain ⟨h', hv⟩ := Option.isSome_iff_exists.mp hs
  rw [hv]
  exact je_put D122_48 rfl (by decide) (by decide) hv
theorem D122_51 : decode (jt_code 122) 51 = .ok (.aload_n 0, 1) := by decide +kernel
theorem E122_51 {call : jv_F} {a : Nat} {st : List Value} {h : jv_H} : jv_ev call 122 51 [some (.ref a)] st h = jv_ev call 122 52 [some (.ref a)] (.ref a :: st) h := je_aload_n (r := some a) D122_51 rfl rfl
theorem D122_52 : decode (jt_code 122) 52 = .ok (.iconst 0, 1) := by decide +kernel
theorem E122_52 {call : jv_F} {l0 : Option Value}  {st : List Value} {h : jv_H} : jv_ev call 122 52 [l0] st h = jv_ev call 122 53 [l0] (.int (nI 0) :: st) h := je_iconst D122_52 rfl (by decide)
theorem D122_53 : decode (jt_code 122) 53 = .ok (.putfield 40, 3) := by decide +kernel
theorem E122_53 {call : jv_F} {l0 : Option Value} {a : Nat} {v : Value} {st : List Value} {h : jv_H} (hs : (jv_pf h a 6 5 v).isSome = true) : jv_ev call 122 53 [l0] (v :: .ref a :: st) h = jv_ev call 122 56 [l0] st ((jv_pf h a 6 5 v).getD h) := by
  obtain ⟨h', hv⟩ := Option.isSome_iff_exists.mp hs
  rw [hv]
  exact je_put D122_53 rfl (by decide) (by decide) hv
theorem D122_56 : decode (jt_code 122) 56 = .ok (.aload_n 0, 1) := by decide +kernel
theorem E122_56 {call : jv_F} {a : Nat} {st : List Value} {h : jv_H} : jv_ev call 122 56 [some (.ref a)] st h = jv_ev call 122 57 [some (.ref a)] (.ref a :: st) h := je_aload_n (r := some a) D122_56 rfl rfl
theorem D122_57 : decode (jt_code 122) 57 = .ok (.iconst 0, 1) := by decide +kernel
theorem E122_57 {call : jv_F} {l0 : Option Value}  {st : List Value} {h : jv_H} : jv_ev call 122 57 [l0] st h = jv_ev call 122 58 [l0] (.int (nI 0) :: st) h := je_iconst D122_57 rfl (by decide)
theorem D122_58 : decode (jt_code 122) 58 = .ok (.putfield 43, 3) := by decide +kernel
theorem E122_58 {call : jv_F} {l0 : Option Value} {a : Nat} {v : Value} {st : List Value} {h : jv_H} (hs : (jv_pf h a 6 6 v).isSome = true) : jv_ev call 122 58 [l0] (v :: .ref a :: st) h = jv_ev call 122 61 [l0] st ((jv_pf h a 6 6 v).getD h) := by
  obtain ⟨h', hv⟩ := Option.isSome_iff_exists.mp hs
  rw [hv]
  exact je_put D122_58 rfl (by decide) (by decide) hv
theorem D122_61 : decode (jt_code 122) 61 = .ok (.aload_n 0, 1) := by decide +kernel
theorem E122_61 {call : jv_F} {a : Nat} {st : List Value} {h : jv_H} : jv_ev call 122 61 [some (.ref a)] st h = jv_ev call 122 62 [some (.ref a)] (.ref a :: st) h := je_aload_n (r := some a) D122_61 rfl rfl
theorem D122_62 : decode (jt_code 122) 62 = .ok (.iconst (-1), 1) := by decide +kernel
theorem E122_62 {call : jv_F} {l0 : Option Value}  {st : List Value} {h : jv_H} : jv_ev call 122 62 [l0] st h = jv_ev call 122 63 [l0] (.int (-1) :: st) h := je_iconst D122_62 rfl (by decide)
theorem D122_63 : decode (jt_code 122) 63 = .ok (.putfield 46, 3) := by decide +kernel
theorem E122_63 {call : jv_F} {l0 : Option Value} {a : Nat} {v : Value} {st : List Value} {h : jv_H} (hs : (jv_pf h a 6 7 v).isSome = true) : jv_ev call 122 63 [l0] (v :: .ref a :: st) h = jv_ev call 122 66 [l0] st ((jv_pf h a 6 7 v).getD h) := by
  obtain ⟨h', hv⟩ := Option.isSome_iff_exists.mp hs
  rw [hv]
  exact je_put D122_63 rfl (by decide) (by decide) hv
theorem D122_66 : decode (jt_code 122) 66 = .ok (.aload_n 0, 1) := by decide +kernel
theorem E122_66 {call : jv_F} {a : Nat} {st : List Value} {h : jv_H} : jv_ev call 122 66 [some (.ref a)] st h = jv_ev call 122 67 [some (.ref a)] (.ref a :: st) h := je_aload_n (r := some a) D122_66 rfl rfl
theorem D122_67 : decode (jt_code 122) 67 = .ok (.iconst 0, 1) := by decide +kernel
theorem E122_67 {call : jv_F} {l0 : Option Value}  {st : List Value} {h : jv_H} : jv_ev call 122 67 [l0] st h = jv_ev call 122 68 [l0] (.int (nI 0) :: st) h := je_iconst D122_67 rfl (by decide)
theorem D122_68 : decode (jt_code 122) 68 = .ok (.putfield 49, 3) := by decide +kernel
theorem E122_68 {call : jv_F} {l0 : Option Value} {a : Nat} {v : Value} {st : List Value} {h : jv_H} (hs : (jv_pf h a 6 8 v).isSome = true) : jv_ev call 122 68 [l0] (v :: .ref a :: st) h = jv_ev call 122 71 [l0] st ((jv_pf h a 6 8 v).getD h) := by
  obtain ⟨h', hv⟩ := Option.isSome_iff_exists.mp hs
  rw [hv]
  exact je_put D122_68 rfl (by decide) (by decide) hv
theorem D122_71 : decode (jt_code 122) 71 = .ok (.aload_n 0, 1) := by decide +kernel
theorem E122_71 {call : jv_F} {a : Nat} {st : List Value} {h : jv_H} : jv_ev call 122 71 [some (.ref a)] st h = jv_ev call 122 72 [some (.ref a)] (.ref a :: st) h := je_aload_n (r := some a) D122_71 rfl rfl
theorem D122_72 : decode (jt_code 122) 72 = .ok (.iconst 0, 1) := by decide +kernel
theorem E122_72 {call : jv_F} {l0 : Option Value}  {st : List Value} {h : jv_H} : jv_ev call 122 72 [l0] st h = jv_ev call 122 73 [l0] (.int (nI 0) :: st) h := je_iconst D122_72 rfl (by decide)
theorem D122_73 : decode (jt_code 122) 73 = .ok (.putfield 52, 3) := by decide +kernel
theorem E122_73 {call : jv_F} {l0 : Option Value} {a : Nat} {v : Value} {st : List Value} {h : jv_H} (hs : (jv_pf h a 6 9 v).isSome = true) : jv_ev call 122 73 [l0] (v :: .ref a :: st) h = jv_ev call 122 76 [l0] st ((jv_pf h a 6 9 v).getD h) := by
  obtain ⟨h', hv⟩ := Option.isSome_iff_exists.mp hs
  rw [hv]
  exact je_put D122_73 rfl (by decide) (by decide) hv
theorem D122_76 : decode (jt_code 122) 76 = .ok (.aload_n 0, 1) := by decide +kernel
theorem E122_76 {call : jv_F} {a : Nat} {st : List Value} {h : jv_H} : jv_ev call 122 76 [some (.ref a)] st h = jv_ev call 122 77 [some (.ref a)] (.ref a :: st) h := je_aload_n (r := some a) D122_76 rfl rfl
theorem D122_77 : decode (jt_code 122) 77 = .ok (.iconst 0, 1) := by decide +kernel
theorem E122_77 {call : jv_F} {l0 : Option Value}  {st : List Value} {h : jv_H} : jv_ev call 122 77 [l0] st h = jv_ev call 122 78 [l0] (.int (nI 0) :: st) h := je_iconst D122_77 rfl (by decide)
theorem D122_78 : decode (jt_code 122) 78 = .ok (.putfield 55, 3) := by decide +kernel
theorem E122_78 {call : jv_F} {l0 : Option Value} {a : Nat} {v : Value} {st : List Value} {h : jv_H} (hs : (jv_pf h a 6 10 v).isSome = true) : jv_ev call 122 78 [l0] (v :: .ref a :: st) h = jv_ev call 122 81 [l0] st ((jv_pf h a 6 10 v).getD h) := by
  obtain ⟨h', hv⟩ := Option.isSome_iff_exists.mp hs
  rw [hv]
  exact je_put D122_78 rfl (by decide) (by decide) hv
theorem D122_81 : decode (jt_code 122) 81 = .ok (.aload_n 0, 1) := by decide +kernel
theorem E122_81 {call : jv_F} {a : Nat} {st : List Value} {h : jv_H} : jv_ev call 122 81 [some (.ref a)] st h = jv_ev call 122 82 [some (.ref a)] (.ref a :: st) h := je_aload_n (r := some a) D122_81 rfl rfl
theorem D122_82 : decode (jt_code 122) 82 = .ok (.iconst 0, 1) := by decide +kernel
theorem E122_82 {call : jv_F} {l0 : Option Value}  {st : List Value} {h : jv_H} : jv_ev call 122 82 [l0] st h = jv_ev call 122 83 [l0] (.int (nI 0) :: st) h := je_iconst D122_82 rfl (by decide)
theorem D122_83 : decode (jt_code 122) 83 = .ok (.putfield 58, 3) := by decide +kernel
theorem E122_83 {call : jv_F} {l0 : Option Value} {a : Nat} {v : Value} {st : List Value} {h : jv_H} (hs : (jv_pf h a 6 11 v).isSome = true) : jv_ev call 122 83 [l0] (v :: .ref a :: st) h = jv_ev call 122 86 [l0] st ((jv_pf h a 6 11 v).getD h) := by
  obtain ⟨h', hv⟩ := Option.isSome_iff_exists.mp hs
  rw [hv]
  exact je_put D122_83 rfl (by decide) (by decide) hv
theorem D122_86 : decode (jt_code 122) 86 = .ok (.return_, 1) := by decide +kernel
theorem E122_86 {call : jv_F} {l0 : Option Value}  {h : jv_H} : jv_ev call 122 86 [l0] [] h = some (none, h) := je_ret D122_86 rfl
