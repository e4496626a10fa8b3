/-! method 67: DrumMachine$Core.resize -/
theorem N67 {d : Nat} {b : Nat} {a0 : Int32} {h : jv_H} : jv_run (d + 1) 67 [.ref b, .int a0] h = jv_ev (jv_run d) 67 0 [some (.ref b), some (.int a0)] [] h := jv_run_eq (Nat.le_of_ble_eq_true rfl) rfl
theorem D67_0 : decode (jt_code 67) 0 = .ok (.aload_n 0, 1) := by decide +kernel
theorem E67_0 {call : jv_F} {l1 : Option Value} {a : Nat} {st : List Value} {h : jv_H} : jv_ev call 67 0 [some (.ref a), l1] st h = jv_ev call 67 1 [some (.ref a), l1] (.ref a :: st) h := je_aload_n (r := some a) D67_0 rfl rfl
theorem D67_1 : decode (jt_code 67) 1 = .ok (.iload_n 1, 1) := by decide +kernel
theorem E67_1 {call : jv_F} {l0 : Option Value} {x : Int32} {st : List Value} {h : jv_H} : jv_ev call 67 1 [l0, some (.int x)] st h = jv_ev call 67 2 [l0, some (.int x)] (.int x :: st) h := je_iload_n D67_1 rfl rfl
theorem D67_2 : decode (jt_code 67) 2 = .ok (.putfield 17, 3) := by decide +kernel
theorem E67_2 {call : jv_F} {l0 l1 : Option Value} {a : Nat} {v : Value} {st : List Value} {h : jv_H} (hs : (jv_pf h a 2 1 v).isSome = true) : jv_ev call 67 2 [l0, l1] (v :: .ref a :: st) h = jv_ev call 67 5 [l0, l1] st ((jv_pf h a 2 1 v).getD h) := by
  obtain ⟨h', hv⟩ := Option.isSome_iff_exists.mp hs
  rw [hv]
  exact je_put D67_2 rfl (by decide) (by decide) hv
theorem D67_5 : decode (jt_code 67) 5 = .ok (.aload_n 0, 1) := by decide +kernel
theorem E67_5 {call : jv_F} {l1 : Option Value} {a : Nat} {st : List Value} {h : jv_H} : jv_ev call 67 5 [some (.ref a), l1] st h = jv_ev call 67 6 [some (.ref a), l1] (.ref a :: st) h := je_aload_n (r := some a) D67_5 rfl rfl
theorem D67_6 : decode (jt_code 67) 6 = .ok (.iload_n 1, 1) := by decide +kernel
theorem E67_6 {call : jv_F} {l0 : Option Value} {x : Int32} {st : List Value} {h : jv_H} : jv_ev call 67 6 [l0, some (.int x)] st h = jv_ev call 67 7 [l0, some (.int x)] (.int x :: st) h := je_iload_n D67_6 rfl rfl
theorem D67_7 : decode (jt_code 67) 7 = .ok (.putfield 21, 3) := by decide +kernel
theorem E67_7 {call : jv_F} {l0 l1 : Option Value} {a : Nat} {v : Value} {st : List Value} {h : jv_H} (hs : (jv_pf h a 2 2 v).isSome = true) : jv_ev call 67 7 [l0, l1] (v :: .ref a :: st) h = jv_ev call 67 10 [l0, l1] st ((jv_pf h a 2 2 v).getD h) := by
  obtain ⟨h', hv⟩ := Option.isSome_iff_exists.mp hs
  rw [hv]
  exact je_put D67_7 rfl (by decide) (by decide) hv
theorem D67_10 : decode (jt_code 67) 10 = .ok (.return_, 1) := by decide +kernel
theorem E67_10 {call : jv_F} {l0 l1 : Option Value}  {h : jv_H} : jv_ev call 67 10 [l0, l1] [] h = some (none, h) := je_ret D67_10 rfl
/-! method 68: DrumMachine$Core.mostActive -/
theorem N68 {d : Nat} {b : Nat} {h : jv_H} : jv_run (d + 1) 68 [.ref b] h = jv_ev (jv_run d) 68 0 [some (.ref b)] [] h := jv_run_eq (Nat.le_of_ble_eq_true rfl) rfl
theorem D68_0 : decode (jt_code 68) 0 = .ok (.aload_n 0, 1) := by decide +kernel
theorem E68_0 {call : jv_F} {a : Nat} {st : List Value} {h : jv_H} : jv_ev call 68 0 [some (.ref a)] st h = jv_ev call 68 1 [some (.ref a)] (.ref a :: st) h := je_aload_n (r := some a) D68_0 rfl rfl
theorem D68_1 : decode (jt_code 68) 1 = .ok (.getfield 17, 3) := by decide +kernel
theorem E68_1 {call : jv_F} {l0 : Option Value} {a : Nat} {st : List Value} {h : jv_H} (hs : (jv_gf h a 2 1).isSome = true) : jv_ev call 68 1 [l0] (.ref a :: st) h = jv_ev call 68 4 [l0] ((jv_gf h a 2 1).getD .null :: st) h := by
  obtain ⟨v, hv⟩ := Option.isSome_iff_exists.mp hs
  rw [hv]
  exact je_get D68_1 rfl (by decide) hv
theorem D68_4 : decode (jt_code 68) 4 = .ok (.iconst 1, 1) := by decide +kernel
theorem E68_4 {call : jv_F} {l0 : Option Value}  {st : List Value} {h : jv_H} : jv_ev call 68 4 [l0] st h = jv_ev call 68 5 [l0] (.int (nI 1) :: st) h := je_iconst D68_4 rfl (by decide)
theorem D68_5 : decode (jt_code 68) 5 = .ok (.isub, 1) := by decide +kernel
theorem E68_5 {call : jv_F} {l0 : Option Value} {x y : Int32} {st : List Value} {h : jv_H} : jv_ev call 68 5 [l0] (.int y :: .int x :: st) h = jv_ev call 68 6 [l0] (.int (x - y) :: st) h := je_b2 (f := fun x y => x - y) D68_5 rfl (fun _ => rfl)
theorem D68_6 : decode (jt_code 68) 6 = .ok (.iconst 2, 1) := by decide +kernel
theorem E68_6 {call : jv_F} {l0 : Option Value}  {st : List Value} {h : jv_H} : jv_ev call 68 6 [l0] st h = jv_ev call 68 7 [l0] (.int (nI 2) :: st) h := je_iconst D68_6 rfl (by decide)
theorem D68_7 : decode (jt_code 68) 7 = .ok (.idiv, 1) := by decide +kernel
theorem E68_7 {call : jv_F} {l0 : Option Value} {x y : Int32} {st : List Value} {h : jv_H} (hy : ¬ y = 0) : jv_ev call 68 7 [l0] (.int y :: .int x :: st) h = jv_ev call 68 8 [l0] (.int (x / y) :: st) h := je_idiv D68_7 rfl hy
theorem D68_8 : decode (jt_code 68) 8 = .ok (.ireturn, 1) := by decide +kernel
theorem E68_8 {call : jv_F} {l0 : Option Value} {v : Int32} {h : jv_H} : jv_ev call 68 8 [l0] [.int v] h = some (some (.int v), h) := je_iret (ty := .int) D68_8 rfl rfl rfl
/-! method 69: DrumMachine$Core.blockIn -/
theorem N69 {d : Nat} {b : Nat} {a0 : Int32} {h : jv_H} : jv_run (d + 1) 69 [.ref b, .int a0] h = jv_ev (jv_run d) 69 0 [some (.ref b), some (.int a0)] [] h := jv_run_eq (Nat.le_of_ble_eq_true rfl) rfl
theorem D69_0 : decode (jt_code 69) 0 = .ok (.iload_n 1, 1) := by decide +kernel
theorem E69_0 {call : jv_F} {l0 : Option Value} {x : Int32} {st : List Value} {h : jv_H} : jv_ev call 69 0 [l0, some (.int x)] st h = jv_ev call 69 1 [l0, some (.int x)] (.int x :: st) h := je_iload_n D69_0 rfl rfl
theorem D69_1 : decode (jt_code 69) 1 = .ok (.ifCond .lt 26, 3) := by decide +kernel
theorem E69_1 {call : jv_F} {l0 l1 : Option Value} {x : Int32} {st : List Value} {h : jv_H} : jv_ev call 69 1 [l0, l1] (.int x :: st) h = if x < 0 then jv_ev call 69 27 [l0, l1] st h else jv_ev call 69 4 [l0, l1] st h := je_ifc D69_1 (by decide) rfl rfl
theorem D69_4 : decode (jt_code 69) 4 = .ok (.iload_n 1, 1) := by decide +kernel
theorem E69_4 {call : jv_F} {l0 : Option Value} {x : Int32} {st : List Value} {h : jv_H} : jv_ev call 69 4 [l0, some (.int x)] st h = jv_ev call 69 5 [l0, some (.int x)] (.int x :: st) h := je_iload_n D69_4 rfl rfl
theorem D69_5 : decode (jt_code 69) 5 = .ok (.aload_n 0, 1) := by decide +kernel
theorem E69_5 {call : jv_F} {l1 : Option Value} {a : Nat} {st : List Value} {h : jv_H} : jv_ev call 69 5 [some (.ref a), l1] st h = jv_ev call 69 6 [some (.ref a), l1] (.ref a :: st) h := je_aload_n (r := some a) D69_5 rfl rfl
theorem D69_6 : decode (jt_code 69) 6 = .ok (.getfield 17, 3) := by decide +kernel
theorem E69_6 {call : jv_F} {l0 l1 : Option Value} {a : Nat} {st : List Value} {h : jv_H} (hs : (jv_gf h a 2 1).isSome = true) : jv_ev call 69 6 [l0, l1] (.ref a :: st) h = jv_ev call 69 9 [l0, l1] ((jv_gf h a 2 1).getD .null :: st) h := by
  obtain ⟨v, hv⟩ := Option.isSome_iff_exists.mp hs
  rw [hv]
  exact je_get D69_6 rfl (by decide) hv
theorem D69_9 : decode (jt_code 69) 9 = .ok (.if_icmp .ge 18, 3) := by decide +kernel
theorem E69_9 {call : jv_F} {l0 l1 : Option Value} {x y : Int32} {st : List Value} {h : jv_H} : jv_ev call 69 9 [l0, l1] (.int y :: .int x :: st) h = if y ≤ x then jv_ev call 69 27 [l0, l1] st h else jv_ev call 69 12 [l0, l1] st h := je_icmp D69_9 (by decide) rfl rfl
theorem D69_12 : decode (jt_code 69) 12 = .ok (.iload_n 1, 1) := by decide +kernel
theorem E69_12 {call : jv_F} {l0 : Option Value} {x : Int32} {st : List Value} {h : jv_H} : jv_ev call 69 12 [l0, some (.int x)] st h = jv_ev call 69 13 [l0, some (.int x)] (.int x :: st) h := je_iload_n D69_12 rfl rfl
theorem D69_13 : decode (jt_code 69) 13 = .ok (.bipush 17, 2) := by decide +kernel
theorem E69_13 {call : jv_F} {l0 l1 : Option Value}  {st : List Value} {h : jv_H} : jv_ev call 69 13 [l0, l1] st h = jv_ev call 69 15 [l0, l1] (.int (nI 17) :: st) h := je_bipush D69_13 rfl (by decide)
theorem D69_15 : decode (jt_code 69) 15 = .ok (.if_icmp .ge 12, 3) := by decide +kernel
theorem E69_15 {call : jv_F} {l0 l1 : Option Value} {x y : Int32} {st : List Value} {h : jv_H} : jv_ev call 69 15 [l0, l1] (.int y :: .int x :: st) h = if y ≤ x then jv_ev call 69 27 [l0, l1] st h else jv_ev call 69 18 [l0, l1] st h := je_icmp D69_15 (by decide) rfl rfl
theorem D69_18 : decode (jt_code 69) 18 = .ok (.aload_n 0, 1) := by decide +kernel
theorem E69_18 {call : jv_F} {l1 : Option Value} {a : Nat} {st : List Value} {h : jv_H} : jv_ev call 69 18 [some (.ref a), l1] st h = jv_ev call 69 19 [some (.ref a), l1] (.ref a :: st) h := je_aload_n (r := some a) D69_18 rfl rfl
theorem D69_19 : decode (jt_code 69) 19 = .ok (.getfield 11, 3) := by decide +kernel
theorem E69_19 {call : jv_F} {l0 l1 : Option Value} {a : Nat} {st : List Value} {h : jv_H} (hs : (jv_gf h a 2 0).isSome = true) : jv_ev call 69 19 [l0, l1] (.ref a :: st) h = jv_ev call 69 22 [l0, l1] ((jv_gf h a 2 0).getD .null :: st) h := by
  obtain ⟨v, hv⟩ := Option.isSome_iff_exists.mp hs
  rw [hv]
  exact je_get D69_19 rfl (by decide) hv
theorem D69_22 : decode (jt_code 69) 22 = .ok (.iload_n 1, 1) := by decide +kernel
theorem E69_22 {call : jv_F} {l0 : Option Value} {x : Int32} {st : List Value} {h : jv_H} : jv_ev call 69 22 [l0, some (.int x)] st h = jv_ev call 69 23 [l0, some (.int x)] (.int x :: st) h := je_iload_n D69_22 rfl rfl
theorem D69_23 : decode (jt_code 69) 23 = .ok (.aaload, 1) := by decide +kernel
theorem E69_23 {call : jv_F} {l0 l1 : Option Value} {a : Nat} {j : Int32} {C : String} {st : List Value} {h : jv_H} (hC : jv_kn h a = some C) (hs : (jv_al h a (.object C) j).isSome = true) : jv_ev call 69 23 [l0, l1] (.int j :: .ref a :: st) h = jv_ev call 69 24 [l0, l1] ((jv_al h a (.object C) j).getD .null :: st) h := by
  obtain ⟨v, hv⟩ := Option.isSome_iff_exists.mp hs
  rw [hv]
  exact je_aald D69_23 rfl hC hv
theorem D69_24 : decode (jt_code 69) 24 = .ok (.goto 4, 3) := by decide +kernel
theorem E69_24 {call : jv_F} {l0 l1 : Option Value}  {st : List Value} {h : jv_H} : jv_ev call 69 24 [l0, l1] st h = jv_ev call 69 28 [l0, l1] st h := je_goto D69_24 (by decide)
theorem D69_27 : decode (jt_code 69) 27 = .ok (.aconst_null, 1) := by decide +kernel
theorem E69_27 {call : jv_F} {l0 l1 : Option Value}  {st : List Value} {h : jv_H} : jv_ev call 69 27 [l0, l1] st h = jv_ev call 69 28 [l0, l1] (.null :: st) h := je_null D69_27 rfl
theorem D69_28 : decode (jt_code 69) 28 = .ok (.areturn, 1) := by decide +kernel
theorem E69_28r {call : jv_F} {l0 l1 : Option Value} {r : Option Nat} {h : jv_H} : jv_ev call 69 28 [l0, l1] [va_rf r] h = some (some (va_rf r), h) := je_aret D69_28 rfl
theorem E69_28 {call : jv_F} {l0 l1 : Option Value} {a : Nat} {h : jv_H} : jv_ev call 69 28 [l0, l1] [.ref a] h = some (some (.ref a), h) := je_aret (r := some a) D69_28 rfl
theorem E69_28n {call : jv_F} {l0 l1 : Option Value}  {h : jv_H} : jv_ev call 69 28 [l0, l1] [.null] h = some (some .null, h) := je_aret (r := none) D69_28 rfl
/-! method 77: DrumMachine$Drum.blockOn -/
theorem N77 {d : Nat} {b : Nat} {a0 : Int32} {h : jv_H} : jv_run (d + 1) 77 [.ref b, .int a0] h = jv_ev (jv_run d) 77 0 [some (.ref b), some (.int a0)] [] h := jv_run_eq (Nat.le_of_ble_eq_true rfl) rfl
theorem D77_0 : decode (jt_code 77) 0 = .ok (.iload_n 1, 1) := by decide +kernel
theorem E77_0 {call : jv_F} {l0 : Option Value} {x : Int32} {st : List Value} {h : jv_H} : jv_ev call 77 0 [l0, some (.int x)] st h = jv_ev call 77 1 [l0, some (.int x)] (.int x :: st) h := je_iload_n D77_0 rfl rfl
theorem D77_1 : decode (jt_code 77) 1 = .ok (.ifCond .lt 18, 3) := by decide +kernel
theorem E77_1 {call : jv_F} {l0 l1 : Option Value} {x : Int32} {st : List Value} {h : jv_H} : jv_ev call 77 1 [l0, l1] (.int x :: st) h = if x < 0 then jv_ev call 77 19 [l0, l1] st h else jv_ev call 77 4 [l0, l1] st h := je_ifc D77_1 (by decide) rfl rfl
theorem D77_4 : decode (jt_code 77) 4 = .ok (.iload_n 1, 1) := by decide +kernel
theorem E77_4 {call : jv_F} {l0 : Option Value} {x : Int32} {st : List Value} {h : jv_H} : jv_ev call 77 4 [l0, some (.int x)] st h = jv_ev call 77 5 [l0, some (.int x)] (.int x :: st) h := je_iload_n D77_4 rfl rfl
theorem D77_5 : decode (jt_code 77) 5 = .ok (.bipush 64, 2) := by decide +kernel
theorem E77_5 {call : jv_F} {l0 l1 : Option Value}  {st : List Value} {h : jv_H} : jv_ev call 77 5 [l0, l1] st h = jv_ev call 77 7 [l0, l1] (.int (nI 64) :: st) h := je_bipush D77_5 rfl (by decide)
theorem D77_7 : decode (jt_code 77) 7 = .ok (.if_icmp .ge 12, 3) := by decide +kernel
theorem E77_7 {call : jv_F} {l0 l1 : Option Value} {x y : Int32} {st : List Value} {h : jv_H} : jv_ev call 77 7 [l0, l1] (.int y :: .int x :: st) h = if y ≤ x then jv_ev call 77 19 [l0, l1] st h else jv_ev call 77 10 [l0, l1] st h := je_icmp D77_7 (by decide) rfl rfl
theorem D77_10 : decode (jt_code 77) 10 = .ok (.aload_n 0, 1) := by decide +kernel
theorem E77_10 {call : jv_F} {l1 : Option Value} {a : Nat} {st : List Value} {h : jv_H} : jv_ev call 77 10 [some (.ref a), l1] st h = jv_ev call 77 11 [some (.ref a), l1] (.ref a :: st) h := je_aload_n (r := some a) D77_10 rfl rfl
theorem D77_11 : decode (jt_code 77) 11 = .ok (.getfield 11, 3) := by decide +kernel
theorem E77_11 {call : jv_F} {l0 l1 : Option Value} {a : Nat} {st : List Value} {h : jv_H} (hs : (jv_gf h a 3 0).isSome = true) : jv_ev call 77 11 [l0, l1] (.ref a :: st) h = jv_ev call 77 14 [l0, l1] ((jv_gf h a 3 0).getD .null :: st) h := by
  obtain ⟨v, hv⟩ := Option.isSome_iff_exists.mp hs
  rw [hv]
  exact je_get D77_11 rfl (by decide) hv
theorem D77_14 : decode (jt_code 77) 14 = .ok (.iload_n 1, 1) := by decide +kernel
theorem E77_14 {call : jv_F} {l0 : Option Value} {x : Int32} {st : List Value} {h : jv_H} : jv_ev call 77 14 [l0, some (.int x)] st h = jv_ev call 77 15 [l0, some (.int x)] (.int x :: st) h := je_iload_n D77_14 rfl rfl
theorem D77_15 : decode (jt_code 77) 15 = .ok (.aaload, 1) := by decide +kernel
theorem E77_15 {call : jv_F} {l0 l1 : Option Value} {a : Nat} {j : Int32} {C : String} {st : List Value} {h : jv_H} (hC : jv_kn h a = some C) (hs : (jv_al h a (.object C) j).isSome = true) : jv_ev call 77 15 [l0, l1] (.int j :: .ref a :: st) h = jv_ev call 77 16 [l0, l1] ((jv_al h a (.object C) j).getD .null :: st) h := by
  obtain ⟨v, hv⟩ := Option.isSome_iff_exists.mp hs
  rw [hv]
  exact je_aald D77_15 rfl hC hv
theorem D77_16 : decode (jt_code 77) 16 = .ok (.goto 4, 3) := by decide +kernel
theorem E77_16 {call : jv_F} {l0 l1 : Option Value}  {st : List Value} {h : jv_H} : jv_ev call 77 16 [l0, l1] st h = jv_ev call 77 20 [l0, l1] st h := je_goto D77_16 (by decide)
theorem D77_19 : decode (jt_code 77) 19 = .ok (.aconst_null, 1) := by decide +kernel
theorem E77_19 {call : jv_F} {l0 l1 : Option Value}  {st : List Value} {h : jv_H} : jv_ev call 77 19 [l0, l1] st h = jv_ev call 77 20 [l0, l1] (.null :: st) h := je_null D77_19 rfl
theorem D77_20 : decode (jt_code 77) 20 = .ok (.areturn, 1) := by decide +kernel
theorem E77_20r {call : jv_F} {l0 l1 : Option Value} {r : Option Nat} {h : jv_H} : jv_ev call 77 20 [l0, l1] [va_rf r] h = some (some (va_rf r), h) := je_aret D77_20 rfl
theorem E77_20 {call : jv_F} {l0 l1 : Option Value} {a : Nat} {h : jv_H} : jv_ev call 77 20 [l0, l1] [.ref a] h = some (some (.ref a), h) := je_aret (r := some a) D77_20 rfl
theorem E77_20n {call : jv_F} {l0 l1 : Option Value}  {h : jv_H} : jv_ev call 77 20 [l0, l1] [.null] h = some (some .null, h) := je_aret (r := none) D77_20 rfl
/-! method 89: DrumMachine$Job.wrapWord -/
theorem N89 {d : Nat} {a0 : Int64} {h : jv_H} : jv_run (d + 1) 89 [.long a0] h = jv_ev (jv_run d) 89 0 [some (.long a0), none] [] h := jv_run_eq (Nat.le_of_ble_eq_true rfl) rfl
theorem D89_0 : decode (jt_code 89) 0 = .ok (.lload_n 0, 1) := by decide +kernel
theorem E89_0 {call : jv_F} {l1 : Option Value} {x : Int64} {st : List Value} {h : jv_H} : jv_ev call 89 0 [some (.long x), l1] st h = jv_ev call 89 1 [some (.long x), l1] (.long x :: st) h := je_lload_n D89_0 rfl rfl
theorem D89_1 : decode (jt_code 89) 1 = .ok (.bipush 16, 2) := by decide +kernel
theorem E89_1 {call : jv_F} {l0 l1 : Option Value}  {st : List Value} {h : jv_H} : jv_ev call 89 1 [l0, l1] st h = jv_ev call 89 3 [l0, l1] (.int (nI 16) :: st) h := je_bipush D89_1 rfl (by decide)
theorem D89_3 : decode (jt_code 89) 3 = .ok (.lshl, 1) := by decide +kernel
theorem E89_3 {call : jv_F} {l0 l1 : Option Value} {x : Int64} {y : Int32} {st : List Value} {h : jv_H} : jv_ev call 89 3 [l0, l1] (.int y :: .long x :: st) h = jv_ev call 89 4 [l0, l1] (.long (x <<< (y.toInt64 &&& 63)) :: st) h := je_lshl D89_3 rfl
theorem D89_4 : decode (jt_code 89) 4 = .ok (.bipush 16, 2) := by decide +kernel
theorem E89_4 {call : jv_F} {l0 l1 : Option Value}  {st : List Value} {h : jv_H} : jv_ev call 89 4 [l0, l1] st h = jv_ev call 89 6 [l0, l1] (.int (nI 16) :: st) h := je_bipush D89_4 rfl (by decide)
theorem D89_6 : decode (jt_code 89) 6 = .ok (.lshr, 1) := by decide +kernel
theorem E89_6 {call : jv_F} {l0 l1 : Option Value} {x : Int64} {y : Int32} {st : List Value} {h : jv_H} : jv_ev call 89 6 [l0, l1] (.int y :: .long x :: st) h = jv_ev call 89 7 [l0, l1] (.long (x >>> (y.toInt64 &&& 63)) :: st) h := je_lshr D89_6 rfl
theorem D89_7 : decode (jt_code 89) 7 = .ok (.lreturn, 1) := by decide +kernel
theorem E89_7 {call : jv_F} {l0 l1 : Option Value} {v : Int64} {h : jv_H} : jv_ev call 89 7 [l0, l1] [.long v] h = some (some (.long v), h) := je_lret D89_7 rfl
/-! method 117: DrumMachine$Tray.hasRoomForWords -/
theorem N117 {d : Nat} {b : Nat} {a0 : Int32} {h : jv_H} : jv_run (d + 1) 117 [.ref b, .int a0] h = jv_ev (jv_run d) 117 0 [some (.ref b), some (.int a0)] [] h := jv_run_eq (Nat.le_of_ble_eq_true rfl) rfl
theorem D117_0 : decode (jt_code 117) 0 = .ok (.aload_n 0, 1) := by decide +kernel
theorem E117_0 {call : jv_F} {l1 : Option Value} {a : Nat} {st : List Value} {h : jv_H} : jv_ev call 117 0 [some (.ref a), l1] st h = jv_ev call 117 1 [some (.ref a), l1] (.ref a :: st) h := je_aload_n (r := some a) D117_0 rfl rfl
theorem D117_1 : decode (jt_code 117) 1 = .ok (.getfield 19, 3) := by decide +kernel
theorem E117_1 {call : jv_F} {l0 l1 : Option Value} {a : Nat} {st : List Value} {h : jv_H} (hs : (jv_gf h a 5 2).isSome = true) : jv_ev call 117 1 [l0, l1] (.ref a :: st) h = jv_ev call 117 4 [l0, l1] ((jv_gf h a 5 2).getD .null :: st) h := by
  obtain ⟨v, hv⟩ := Option.isSome_iff_exists.mp hs
  rw [hv]
  exact je_get D117_1 rfl (by decide) hv
theorem D117_4 : decode (jt_code 117) 4 = .ok (.iload_n 1, 1) := by decide +kernel
theorem E117_4 {call : jv_F} {l0 : Option Value} {x : Int32} {st : List Value} {h : jv_H} : jv_ev call 117 4 [l0, some (.int x)] st h = jv_ev call 117 5 [l0, some (.int x)] (.int x :: st) h := je_iload_n D117_4 rfl rfl
theorem D117_5 : decode (jt_code 117) 5 = .ok (.iadd, 1) := by decide +kernel
theorem E117_5 {call : jv_F} {l0 l1 : Option Value} {x y : Int32} {st : List Value} {h : jv_H} : jv_ev call 117 5 [l0, l1] (.int y :: .int x :: st) h = jv_ev call 117 6 [l0, l1] (.int (x + y) :: st) h := je_b2 (f := fun x y => x + y) D117_5 rfl (fun _ => rfl)
theorem D117_6 : decode (jt_code 117) 6 = .ok (.sipush 1000, 3) := by decide +kernel
theorem E117_6 {call : jv_F} {l0 l1 : Option Value}  {st : List Value} {h : jv_H} : jv_ev call 117 6 [l0, l1] st h = jv_ev call 117 9 [l0, l1] (.int (nI 1000) :: st) h := je_sipush D117_6 rfl (by decide)
theorem D117_9 : decode (jt_code 117) 9 = .ok (.if_icmp .gt 7, 3) := by decide +kernel
theorem E117_9 {call : jv_F} {l0 l1 : Option Value} {x y : Int32} {st : List Value} {h : jv_H} : jv_ev call 117 9 [l0, l1] (.int y :: .int x :: st) h = if y < x then jv_ev call 117 16 [l0, l1] st h else jv_ev call 117 12 [l0, l1] st h := je_icmp D117_9 (by decide) rfl rfl
theorem D117_12 : decode (jt_code 117) 12 = .ok (.iconst 1, 1) := by decide +kernel
theorem E117_12 {call : jv_F} {l0 l1 : Option Value}  {st : List Value} {h : jv_H} : jv_ev call 117 12 [l0, l1] st h = jv_ev call 117 13 [l0, l1] (.int (nI 1) :: st) h := je_iconst D117_12 rfl (by decide)
theorem D117_13 : decode (jt_code 117) 13 = .ok (.goto 4, 3) := by decide +kernel
theorem E117_13 {call : jv_F} {l0 l1 : Option Value}  {st : List Value} {h : jv_H} : jv_ev call 117 13 [l0, l1] st h = jv_ev call 117 17 [l0, l1] st h := je_goto D117_13 (by decide)
theorem D117_16 : decode (jt_code 117) 16 = .ok (.iconst 0, 1) := by decide +kernel
theorem E117_16 {call : jv_F} {l0 l1 : Option Value}  {st : List Value} {h : jv_H} : jv_ev call 117 16 [l0, l1] st h = jv_ev call 117 17 [l0, l1] (.int (nI 0) :: st) h := je_iconst D117_16 rfl (by decide)
theorem D117_17 : decode (jt_code 117) 17 = .ok (.ireturn, 1) := by decide +kernel
theorem E117_17 {call : jv_F} {l0 l1 : Option Value} {v : Int32} {h : jv_H} (hn : narrow .boolean (.int v) = .int v) (hf : fits .boolean (.int v) = true) : jv_ev call 117 17 [l0, l1] [.int v] h = some (some (.int v), h) := je_iret (ty := .boolean) D117_17 rfl hn hf
/-! method 118: DrumMachine$Tray.hasRoomForBytes -/
theorem N118 {d : Nat} {b : Nat} {a0 : Int32} {h : jv_H} : jv_run (d + 1) 118 [.ref b, .int a0] h = jv_ev (jv_run d) 118 0 [some (.ref b), some (.int a0)] [] h := jv_run_eq (Nat.le_of_ble_eq_true rfl) rfl
theorem D118_0 : decode (jt_code 118) 0 = .ok (.aload_n 0, 1) := by decide +kernel
theorem E118_0 {call : jv_F} {l1 : Option Value} {a : Nat} {st : List Value} {h : jv_H} : jv_ev call 118 0 [some (.ref a), l1] st h = jv_ev call 118 1 [some (.ref a), l1] (.ref a :: st) h := je_aload_n (r := some a) D118_0 rfl rfl
theorem D118_1 : decode (jt_code 118) 1 = .ok (.getfield 23, 3) := by decide +kernel
theorem E118_1 {call : jv_F} {l0 l1 : Option Value} {a : Nat} {st : List Value} {h : jv_H} (hs : (jv_gf h a 5 3).isSome = true) : jv_ev call 118 1 [l0, l1] (.ref a :: st) h = jv_ev call 118 4 [l0, l1] ((jv_gf h a 5 3).getD .null :: st) h := by
  obtain ⟨v, hv⟩ := Option.isSome_iff_exists.mp hs
  rw [hv]
  exact je_get D118_1 rfl (by decide) hv
theorem D118_4 : decode (jt_code 118) 4 = .ok (.iload_n 1, 1) := by decide +kernel
theorem E118_4 {call : jv_F} {l0 : Option Value} {x : Int32} {st : List Value} {h : jv_H} : jv_ev call 118 4 [l0, some (.int x)] st h = jv_ev call 118 5 [l0, some (.int x)] (.int x :: st) h := je_iload_n D118_4 rfl rfl
theorem D118_5 : decode (jt_code 118) 5 = .ok (.iadd, 1) := by decide +kernel
theorem E118_5 {call : jv_F} {l0 l1 : Option Value} {x y : Int32} {st : List Value} {h : jv_H} : jv_ev call 118 5 [l0, l1] (.int y :: .int x :: st) h = jv_ev call 118 6 [l0, l1] (.int (x + y) :: st) h := je_b2 (f := fun x y => x + y) D118_5 rfl (fun _ => rfl)
theorem D118_6 : decode (jt_code 118) 6 = .ok (.sipush 2000, 3) := by decide +kernel
theorem E118_6 {call : jv_F} {l0 l1 : Option Value}  {st : List Value} {h : jv_H} : jv_ev call 118 6 [l0, l1] st h = jv_ev call 118 9 [l0, l1] (.int (nI 2000) :: st) h := je_sipush D118_6 rfl (by decide)
theorem D118_9 : decode (jt_code 118) 9 = .ok (.if_icmp .gt 7, 3) := by decide +kernel
theorem E118_9 {call : jv_F} {l0 l1 : Option Value} {x y : Int32} {st : List Value} {h : jv_H} : jv_ev call 118 9 [l0, l1] (.int y :: .int x :: st) h = if y < x then jv_ev call 118 16 [l0, l1] st h else jv_ev call 118 12 [l0, l1] st h := je_icmp D118_9 (by decide) rfl rfl
theorem D118_12 : decode (jt_code 118) 12 = .ok (.iconst 1, 1) := by decide +kernel
theorem E118_12 {call : jv_F} {l0 l1 : Option Value}  {st : List Value} {h : jv_H} : jv_ev call 118 12 [l0, l1] st h = jv_ev call 118 13 [l0, l1] (.int (nI 1) :: st) h := je_iconst D118_12 rfl (by decide)
theorem D118_13 : decode (jt_code 118) 13 = .ok (.goto 4, 3) := by decide +kernel
theorem E118_13 {call : jv_F} {l0 l1 : Option Value}  {st : List Value} {h : jv_H} : jv_ev call 118 13 [l0, l1] st h = jv_ev call 118 17 [l0, l1] st h := je_goto D118_13 (by decide)
theorem D118_16 : decode (jt_code 118) 16 = .ok (.iconst 0, 1) := by decide +kernel
theorem E118_16 {call : jv_F} {l0 l1 : Option Value}  {st : List Value} {h : jv_H} : jv_ev call 118 16 [l0, l1] st h = jv_ev call 118 17 [l0, l1] (.int (nI 0) :: st) h := je_iconst D118_16 rfl (by decide)
theorem D118_17 : decode (jt_code 118) 17 = .ok (.ireturn, 1) := by decide +kernel
theorem E118_17 {call : jv_F} {l0 l1 : Option Value} {v : Int32} {h : jv_H} (hn : narrow .boolean (.int v) = .int v) (hf : fits .boolean (.int v) = true) : jv_ev call 118 17 [l0, l1] [.int v] h = some (some (.int v), h) := je_iret (ty := .boolean) D118_17 rfl hn hf
/-! method 119: DrumMachine$Tray.addWord -/
theorem N119 {d : Nat} {b : Nat} {a0 : Int64} {h : jv_H} : jv_run (d + 1) 119 [.ref b, .long a0] h = jv_ev (jv_run d) 119 0 [some (.ref b), some (.long a0), none] [] h := jv_run_eq (Nat.le_of_ble_eq_true rfl) rfl
theorem D119_0 : decode (jt_code 119) 0 = .ok (.aload_n 0, 1) := by decide +kernel
theorem E119_0 {call : jv_F} {l1 l2 : Option Value} {a : Nat} {st : List Value} {h : jv_H} : jv_ev call 119 0 [some (.ref a), l1, l2] st h = jv_ev call 119 1 [some (.ref a), l1, l2] (.ref a :: st) h := je_aload_n (r := some a) D119_0 rfl rfl
theorem D119_1 : decode (jt_code 119) 1 = .ok (.getfield 19, 3) := by decide +kernel
theorem E119_1 {call : jv_F} {l0 l1 l2 : Option Value} {a : Nat} {st : List Value} {h : jv_H} (hs : (jv_gf h a 5 2).isSome = true) : jv_ev call 119 1 [l0, l1, l2] (.ref a :: st) h = jv_ev call 119 4 [l0, l1, l2] ((jv_gf h a 5 2).getD .null :: st) h := by
  obtain ⟨v, hv⟩ := Option.isSome_iff_exists.mp hs
  rw [hv]
  exact je_get D119_1 rfl (by decide) hv
theorem D119_4 : decode (jt_code 119) 4 = .ok (.sipush 1000, 3) := by decide +kernel
theorem E119_4 {call : jv_F} {l0 l1 l2 : Option Value}  {st : List Value} {h : jv_H} : jv_ev call 119 4 [l0, l1, l2] st h = jv_ev call 119 7 [l0, l1, l2] (.int (nI 1000) :: st) h := je_sipush D119_4 rfl (by decide)
theorem D119_7 : decode (jt_code 119) 7 = .ok (.if_icmp .ge 26, 3) := by decide +kernel
theorem E119_7 {call : jv_F} {l0 l1 l2 : Option Value} {x y : Int32} {st : List Value} {h : jv_H} : jv_ev call 119 7 [l0, l1, l2] (.int y :: .int x :: st) h = if y ≤ x then jv_ev call 119 33 [l0, l1, l2] st h else jv_ev call 119 10 [l0, l1, l2] st h := je_icmp D119_7 (by decide) rfl rfl
theorem D119_10 : decode (jt_code 119) 10 = .ok (.aload_n 0, 1) := by decide +kernel
theorem E119_10 {call : jv_F} {l1 l2 : Option Value} {a : Nat} {st : List Value} {h : jv_H} : jv_ev call 119 10 [some (.ref a), l1, l2] st h = jv_ev call 119 11 [some (.ref a), l1, l2] (.ref a :: st) h := je_aload_n (r := some a) D119_10 rfl rfl
theorem D119_11 : decode (jt_code 119) 11 = .ok (.getfield 9, 3) := by decide +kernel
theorem E119_11 {call : jv_F} {l0 l1 l2 : Option Value} {a : Nat} {st : List Value} {h : jv_H} (hs : (jv_gf h a 5 0).isSome = true) : jv_ev call 119 11 [l0, l1, l2] (.ref a :: st) h = jv_ev call 119 14 [l0, l1, l2] ((jv_gf h a 5 0).getD .null :: st) h := by
  obtain ⟨v, hv⟩ := Option.isSome_iff_exists.mp hs
  rw [hv]
  exact je_get D119_11 rfl (by decide) hv
theorem D119_14 : decode (jt_code 119) 14 = .ok (.aload_n 0, 1) := by decide +kernel
theorem E119_14 {call : jv_F} {l1 l2 : Option Value} {a : Nat} {st : List Value} {h : jv_H} : jv_ev call 119 14 [some (.ref a), l1, l2] st h = jv_ev call 119 15 [some (.ref a), l1, l2] (.ref a :: st) h := je_aload_n (r := some a) D119_14 rfl rfl
theorem D119_15 : decode (jt_code 119) 15 = .ok (.getfield 19, 3) := by decide +kernel
theorem E119_15 {call : jv_F} {l0 l1 l2 : Option Value} {a : Nat} {st : List Value} {h : jv_H} (hs : (jv_gf h a 5 2).isSome = true) : jv_ev call 119 15 [l0, l1, l2] (.ref a :: st) h = jv_ev call 119 18 [l0, l1, l2] ((jv_gf h a 5 2).getD .null :: st) h := by
  obtain ⟨v, hv⟩ := Option.isSome_iff_exists.mp hs
  rw [hv]
  exact je_get D119_15 rfl (by decide) hv
theorem D119_18 : decode (jt_code 119) 18 = .ok (.lload_n 1, 1) := by decide +kernel
theorem E119_18 {call : jv_F} {l0 l2 : Option Value} {x : Int64} {st : List Value} {h : jv_H} : jv_ev call 119 18 [l0, some (.long x), l2] st h = jv_ev call 119 19 [l0, some (.long x), l2] (.long x :: st) h := je_lload_n D119_18 rfl rfl
theorem D119_19 : decode (jt_code 119) 19 = .ok (.invokestatic 26, 3) := by decide +kernel
theorem E119_19 {call : jv_F} {l0 l1 l2 : Option Value} {v0 : Value}  {st : List Value} {h : jv_H} (hw : jv_wide st = true) (hc : (call 89 [v0] h).isSome = true) : jv_ev call 119 19 [l0, l1, l2] (v0 :: st) h = jv_ev call 119 22 [l0, l1, l2] ((((call 89 [v0] h).getD (none, h)).1).toList ++ st) ((call 89 [v0] h).getD (none, h)).2 := by
  obtain ⟨⟨r, h'⟩, hv⟩ := Option.isSome_iff_exists.mp hc
  rw [hv]
  exact je_stat (y := 89) (as := [v0]) D119_19 rfl (by decide) (by decide) rfl hw hv
theorem D119_22 : decode (jt_code 119) 22 = .ok (.lastore, 1) := by decide +kernel
theorem E119_22 {call : jv_F} {l0 l1 l2 : Option Value} {a : Nat} {j : Int32} {x : Int64} {st : List Value} {h : jv_H} (hs : (jv_as h a .long j (.long x)).isSome = true) : jv_ev call 119 22 [l0, l1, l2] (.long x :: .int j :: .ref a :: st) h = jv_ev call 119 23 [l0, l1, l2] st ((jv_as h a .long j (.long x)).getD h) := by
  obtain ⟨h', hv⟩ := Option.isSome_iff_exists.mp hs
  rw [hv]
  exact je_last D119_22 rfl hv
theorem D119_23 : decode (jt_code 119) 23 = .ok (.aload_n 0, 1) := by decide +kernel
theorem E119_23 {call : jv_F} {l1 l2 : Option Value} {a : Nat} {st : List Value} {h : jv_H} : jv_ev call 119 23 [some (.ref a), l1, l2] st h = jv_ev call 119 24 [some (.ref a), l1, l2] (.ref a :: st) h := je_aload_n (r := some a) D119_23 rfl rfl
theorem D119_24 : decode (jt_code 119) 24 = .ok (.dup, 1) := by decide +kernel
theorem E119_24 {call : jv_F} {l0 l1 l2 : Option Value} {a : Nat} {st : List Value} {h : jv_H} : jv_ev call 119 24 [l0, l1, l2] (.ref a :: st) h = jv_ev call 119 25 [l0, l1, l2] (.ref a :: .ref a :: st) h := je_dup D119_24 rfl rfl
theorem E119_24i {call : jv_F} {l0 l1 l2 : Option Value} {x : Int32} {st : List Value} {h : jv_H} : jv_ev call 119 24 [l0, l1, l2] (.int x :: st) h = jv_ev call 119 25 [l0, l1, l2] (.int x :: .int x :: st) h := je_dup D119_24 rfl rfl
theorem D119_25 : decode (jt_code 119) 25 = .ok (.getfield 19, 3) := by decide +kernel
theorem E119_25 {call : jv_F} {l0 l1 l2 : Option Value} {a : Nat} {st : List Value} {h : jv_H} (hs : (jv_gf h a 5 2).isSome = true) : jv_ev call 119 25 [l0, l1, l2] (.ref a :: st) h = jv_ev call 119 28 [l0, l1, l2] ((jv_gf h a 5 2).getD .null :: st) h := by
  obtain ⟨v, hv⟩ := Option.isSome_iff_exists.mp hs
  rw [hv]
  exact je_get D119_25 rfl (by decide) hv
theorem D119_28 : decode (jt_code 119) 28 = .ok (.iconst 1, 1) := by decide +kernel
theorem E119_28 {call : jv_F} {l0 l1 l2 : Option Value}  {st : List Value} {h : jv_H} : jv_ev call 119 28 [l0, l1, l2] st h = jv_ev call 119 29 [l0, l1, l2] (.int (nI 1) :: st) h := je_iconst D119_28 rfl (by decide)
theorem D119_29 : decode (jt_code 119) 29 = .ok (.iadd, 1) := by decide +kernel
theorem E119_29 {call : jv_F} {l0 l1 l2 : Option Value} {x y : Int32} {st : List Value} {h : jv_H} : jv_ev call 119 29 [l0, l1, l2] (.int y :: .int x :: st) h = jv_ev call 119 30 [l0, l1, l2] (.int (x + y) :: st) h := je_b2 (f := fun x y => x + y) D119_29 rfl (fun _ => rfl)
theorem D119_30 : decode (jt_code 119) 30 = .ok (.putfield 19, 3) := by decide +kernel
theorem E119_30 {call : jv_F} {l0 l1 l2 : Option Value} {a : Nat} {v : Value} {st : List Value} {h : jv_H} (hs : (jv_pf h a 5 2 v).isSome = true) : jv_ev call 119 30 [l0, l1, l2] (v :: .ref a :: st) h = jv_ev call 119 33 [l0, l1, l2] st ((jv_pf h a 5 2 v).getD h) := by
  obtain ⟨h', hv⟩ := Option.isSome_iff_exists.mp hs
  rw [hv]
  exact je_put D119_30 rfl (by decide) (by decide) hv
theorem D119_33 : decode (jt_code 119) 33 = .ok (.return_, 1) := by decide +kernel
theorem E119_33 {call : jv_F} {l0 l1 l2 : Option Value}  {h : jv_H} : jv_ev call 119 33 [l0, l1, l2] [] h = some (none, h) := je_ret D119_33 rfl
/-! method 120: DrumMachine$Tray.addBytes -/
theorem N120 {d : Nat} {b : Nat} {a0 : Int64} {a1 : Int32} {h : jv_H} : jv_run (d + 1) 120 [.ref b, .long a0, .int a1] h = jv_ev (jv_run d) 120 0 [some (.ref b), some (.long a0), none, some (.int a1), none] [] h := jv_run_eq (Nat.le_of_ble_eq_true rfl) rfl
theorem D120_0 : decode (jt_code 120) 0 = .ok (.iconst 0, 1) := by decide +kernel
theorem E120_0 {call : jv_F} {l0 l1 l2 l3 l4 : Option Value}  {st : List Value} {h : jv_H} : jv_ev call 120 0 [l0, l1, l2, l3, l4] st h = jv_ev call 120 1 [l0, l1, l2, l3, l4] (.int (nI 0) :: st) h := je_iconst D120_0 rfl (by decide)
theorem D120_1 : decode (jt_code 120) 1 = .ok (.istore 4, 2) := by decide +kernel
theorem E120_1 {call : jv_F} {l0 l1 l2 l3 l4 : Option Value} {x : Int32} {st : List Value} {h : jv_H} (hk : ¬ jv_is2 (some l3) = true) : jv_ev call 120 1 [l0, l1, l2, l3, l4] (.int x :: st) h = jv_ev call 120 3 [l0, l1, l2, l3, some (.int x)] st h := je_istore D120_1 rfl (Nat.le_of_ble_eq_true rfl) (by show jv_st1 _ 4 _ = _; simp only [jv_st1, jv_kill, List.getElem?_cons_succ, List.getElem?_cons_zero, hk, if_false]; rfl)
theorem D120_3 : decode (jt_code 120) 3 = .ok (.iload 4, 2) := by decide +kernel
theorem E120_3 {call : jv_F} {l0 l1 l2 l3 : Option Value} {x : Int32} {st : List Value} {h : jv_H} : jv_ev call 120 3 [l0, l1, l2, l3, some (.int x)] st h = jv_ev call 120 5 [l0, l1, l2, l3, some (.int x)] (.int x :: st) h := je_iload D120_3 rfl rfl
theorem D120_5 : decode (jt_code 120) 5 = .ok (.iload_n 3, 1) := by decide +kernel
theorem E120_5 {call : jv_F} {l0 l1 l2 l4 : Option Value} {x : Int32} {st : List Value} {h : jv_H} : jv_ev call 120 5 [l0, l1, l2, some (.int x), l4] st h = jv_ev call 120 6 [l0, l1, l2, some (.int x), l4] (.int x :: st) h := je_iload_n D120_5 rfl rfl
theorem D120_6 : decode (jt_code 120) 6 = .ok (.if_icmp .ge 60, 3) := by decide +kernel
theorem E120_6 {call : jv_F} {l0 l1 l2 l3 l4 : Option Value} {x y : Int32} {st : List Value} {h : jv_H} : jv_ev call 120 6 [l0, l1, l2, l3, l4] (.int y :: .int x :: st) h = if y ≤ x then jv_ev call 120 66 [l0, l1, l2, l3, l4] st h else jv_ev call 120 9 [l0, l1, l2, l3, l4] st h := je_icmp D120_6 (by decide) rfl rfl
theorem D120_9 : decode (jt_code 120) 9 = .ok (.iload 4, 2) := by decide +kernel
theorem E120_9 {call : jv_F} {l0 l1 l2 l3 : Option Value} {x : Int32} {st : List Value} {h : jv_H} : jv_ev call 120 9 [l0, l1, l2, l3, some (.int x)] st h = jv_ev call 120 11 [l0, l1, l2, l3, some (.int x)] (.int x :: st) h := je_iload D120_9 rfl rfl
theorem D120_11 : decode (jt_code 120) 11 = .ok (.bipush 8, 2) := by decide +kernel
theorem E120_11 {call : jv_F} {l0 l1 l2 l3 l4 : Option Value}  {st : List Value} {h : jv_H} : jv_ev call 120 11 [l0, l1, l2, l3, l4] st h = jv_ev call 120 13 [l0, l1, l2, l3, l4] (.int (nI 8) :: st) h := je_bipush D120_11 rfl (by decide)
theorem D120_13 : decode (jt_code 120) 13 = .ok (.if_icmp .ge 53, 3) := by decide +kernel
theorem E120_13 {call : jv_F} {l0 l1 l2 l3 l4 : Option Value} {x y : Int32} {st : List Value} {h : jv_H} : jv_ev call 120 13 [l0, l1, l2, l3, l4] (.int y :: .int x :: st) h = if y ≤ x then jv_ev call 120 66 [l0, l1, l2, l3, l4] st h else jv_ev call 120 16 [l0, l1, l2, l3, l4] st h := je_icmp D120_13 (by decide) rfl rfl
theorem D120_16 : decode (jt_code 120) 16 = .ok (.aload_n 0, 1) := by decide +kernel
theorem E120_16 {call : jv_F} {l1 l2 l3 l4 : Option Value} {a : Nat} {st : List Value} {h : jv_H} : jv_ev call 120 16 [some (.ref a), l1, l2, l3, l4] st h = jv_ev call 120 17 [some (.ref a), l1, l2, l3, l4] (.ref a :: st) h := je_aload_n (r := some a) D120_16 rfl rfl
theorem D120_17 : decode (jt_code 120) 17 = .ok (.getfield 23, 3) := by decide +kernel
theorem E120_17 {call : jv_F} {l0 l1 l2 l3 l4 : Option Value} {a : Nat} {st : List Value} {h : jv_H} (hs : (jv_gf h a 5 3).isSome = true) : jv_ev call 120 17 [l0, l1, l2, l3, l4] (.ref a :: st) h = jv_ev call 120 20 [l0, l1, l2, l3, l4] ((jv_gf h a 5 3).getD .null :: st) h := by
  obtain ⟨v, hv⟩ := Option.isSome_iff_exists.mp hs
  rw [hv]
  exact je_get D120_17 rfl (by decide) hv
theorem D120_20 : decode (jt_code 120) 20 = .ok (.sipush 2000, 3) := by decide +kernel
theorem E120_20 {call : jv_F} {l0 l1 l2 l3 l4 : Option Value}  {st : List Value} {h : jv_H} : jv_ev call 120 20 [l0, l1, l2, l3, l4] st h = jv_ev call 120 23 [l0, l1, l2, l3, l4] (.int (nI 2000) :: st) h := je_sipush D120_20 rfl (by decide)
theorem D120_23 : decode (jt_code 120) 23 = .ok (.if_icmp .ge 43, 3) := by decide +kernel
theorem E120_23 {call : jv_F} {l0 l1 l2 l3 l4 : Option Value} {x y : Int32} {st : List Value} {h : jv_H} : jv_ev call 120 23 [l0, l1, l2, l3, l4] (.int y :: .int x :: st) h = if y ≤ x then jv_ev call 120 66 [l0, l1, l2, l3, l4] st h else jv_ev call 120 26 [l0, l1, l2, l3, l4] st h := je_icmp D120_23 (by decide) rfl rfl
theorem D120_26 : decode (jt_code 120) 26 = .ok (.aload_n 0, 1) := by decide +kernel
theorem E120_26 {call : jv_F} {l1 l2 l3 l4 : Option Value} {a : Nat} {st : List Value} {h : jv_H} : jv_ev call 120 26 [some (.ref a), l1, l2, l3, l4] st h = jv_ev call 120 27 [some (.ref a), l1, l2, l3, l4] (.ref a :: st) h := je_aload_n (r := some a) D120_26 rfl rfl
theorem D120_27 : decode (jt_code 120) 27 = .ok (.getfield 15, 3) := by decide +kernel
theorem E120_27 {call : jv_F} {l0 l1 l2 l3 l4 : Option Value} {a : Nat} {st : List Value} {h : jv_H} (hs : (jv_gf h a 5 1).isSome = true) : jv_ev call 120 27 [l0, l1, l2, l3, l4] (.ref a :: st) h = jv_ev call 120 30 [l0, l1, l2, l3, l4] ((jv_gf h a 5 1).getD .null :: st) h := by
  obtain ⟨v, hv⟩ := Option.isSome_iff_exists.mp hs
  rw [hv]
  exact je_get D120_27 rfl (by decide) hv
theorem D120_30 : decode (jt_code 120) 30 = .ok (.aload_n 0, 1) := by decide +kernel
theorem E120_30 {call : jv_F} {l1 l2 l3 l4 : Option Value} {a : Nat} {st : List Value} {h : jv_H} : jv_ev call 120 30 [some (.ref a), l1, l2, l3, l4] st h = jv_ev call 120 31 [some (.ref a), l1, l2, l3, l4] (.ref a :: st) h := je_aload_n (r := some a) D120_30 rfl rfl
theorem D120_31 : decode (jt_code 120) 31 = .ok (.getfield 23, 3) := by decide +kernel
theorem E120_31 {call : jv_F} {l0 l1 l2 l3 l4 : Option Value} {a : Nat} {st : List Value} {h : jv_H} (hs : (jv_gf h a 5 3).isSome = true) : jv_ev call 120 31 [l0, l1, l2, l3, l4] (.ref a :: st) h = jv_ev call 120 34 [l0, l1, l2, l3, l4] ((jv_gf h a 5 3).getD .null :: st) h := by
  obtain ⟨v, hv⟩ := Option.isSome_iff_exists.mp hs
  rw [hv]
  exact je_get D120_31 rfl (by decide) hv
theorem D120_34 : decode (jt_code 120) 34 = .ok (.lload_n 1, 1) := by decide +kernel
theorem E120_34 {call : jv_F} {l0 l2 l3 l4 : Option Value} {x : Int64} {st : List Value} {h : jv_H} : jv_ev call 120 34 [l0, some (.long x), l2, l3, l4] st h = jv_ev call 120 35 [l0, some (.long x), l2, l3, l4] (.long x :: st) h := je_lload_n D120_34 rfl rfl
theorem D120_35 : decode (jt_code 120) 35 = .ok (.bipush 56, 2) := by decide +kernel
theorem E120_35 {call : jv_F} {l0 l1 l2 l3 l4 : Option Value}  {st : List Value} {h : jv_H} : jv_ev call 120 35 [l0, l1, l2, l3, l4] st h = jv_ev call 120 37 [l0, l1, l2, l3, l4] (.int (nI 56) :: st) h := je_bipush D120_35 rfl (by decide)
theorem D120_37 : decode (jt_code 120) 37 = .ok (.bipush 8, 2) := by decide +kernel
theorem E120_37 {call : jv_F} {l0 l1 l2 l3 l4 : Option Value}  {st : List Value} {h : jv_H} : jv_ev call 120 37 [l0, l1, l2, l3, l4] st h = jv_ev call 120 39 [l0, l1, l2, l3, l4] (.int (nI 8) :: st) h := je_bipush D120_37 rfl (by decide)
theorem D120_39 : decode (jt_code 120) 39 = .ok (.iload 4, 2) := by decide +kernel
theorem E120_39 {call : jv_F} {l0 l1 l2 l3 : Option Value} {x : Int32} {st : List Value} {h : jv_H} : jv_ev call 120 39 [l0, l1, l2, l3, some (.int x)] st h = jv_ev call 120 41 [l0, l1, l2, l3, some (.int x)] (.int x :: st) h := je_iload D120_39 rfl rfl
theorem D120_41 : decode (jt_code 120) 41 = .ok (.imul, 1) := by decide +kernel
theorem E120_41 {call : jv_F} {l0 l1 l2 l3 l4 : Option Value} {x y : Int32} {st : List Value} {h : jv_H} : jv_ev call 120 41 [l0, l1, l2, l3, l4] (.int y :: .int x :: st) h = jv_ev call 120 42 [l0, l1, l2, l3, l4] (.int (x * y) :: st) h := je_b2 (f := fun x y => x * y) D120_41 rfl (fun _ => rfl)
theorem D120_42 : decode (jt_code 120) 42 = .ok (.isub, 1) := by decide +kernel
theorem E120_42 {call : jv_F} {l0 l1 l2 l3 l4 : Option Value} {x y : Int32} {st : List Value} {h : jv_H} : jv_ev call 120 42 [l0, l1, l2, l3, l4] (.int y :: .int x :: st) h = jv_ev call 120 43 [l0, l1, l2, l3, l4] (.int (x - y) :: st) h := je_b2 (f := fun x y => x - y) D120_42 rfl (fun _ => rfl)
theorem D120_43 : decode (jt_code 120) 43 = .ok (.lshr, 1) := by decide +kernel
theorem E120_43 {call : jv_F} {l0 l1 l2 l3 l4 : Option Value} {x : Int64} {y : Int32} {st : List Value} {h : jv_H} : jv_ev call 120 43 [l0, l1, l2, l3, l4] (.int y :: .long x :: st) h = jv_ev call 120 44 [l0, l1, l2, l3, l4] (.long (x >>> (y.toInt64 &&& 63)) :: st) h := je_lshr D120_43 rfl
theorem D120_44 : decode (jt_code 120) 44 = .ok (.l2i, 1) := by decide +kernel
theorem E120_44 {call : jv_F} {l0 l1 l2 l3 l4 : Option Value} {x : Int64} {st : List Value} {h : jv_H} : jv_ev call 120 44 [l0, l1, l2, l3, l4] (.long x :: st) h = jv_ev call 120 45 [l0, l1, l2, l3, l4] (.int x.toInt32 :: st) h := je_l2i D120_44 rfl
theorem D120_45 : decode (jt_code 120) 45 = .ok (.sipush 255, 3) := by decide +kernel
theorem E120_45 {call : jv_F} {l0 l1 l2 l3 l4 : Option Value}  {st : List Value} {h : jv_H} : jv_ev call 120 45 [l0, l1, l2, l3, l4] st h = jv_ev call 120 48 [l0, l1, l2, l3, l4] (.int (nI 255) :: st) h := je_sipush D120_45 rfl (by decide)
theorem D120_48 : decode (jt_code 120) 48 = .ok (.iand, 1) := by decide +kernel
theorem E120_48 {call : jv_F} {l0 l1 l2 l3 l4 : Option Value} {x y : Int32} {st : List Value} {h : jv_H} : jv_ev call 120 48 [l0, l1, l2, l3, l4] (.int y :: .int x :: st) h = jv_ev call 120 49 [l0, l1, l2, l3, l4] (.int (x &&& y) :: st) h := je_b2 (f := fun x y => x &&& y) D120_48 rfl (fun _ => rfl)
theorem D120_49 : decode (jt_code 120) 49 = .ok (.iastore, 1) := by decide +kernel
theorem E120_49 {call : jv_F} {l0 l1 l2 l3 l4 : Option Value} {a : Nat} {j : Int32} {x : Int32} {st : List Value} {h : jv_H} (hs : (jv_as h a .int j (.int x)).isSome = true) : jv_ev call 120 49 [l0, l1, l2, l3, l4] (.int x :: .int j :: .ref a :: st) h = jv_ev call 120 50 [l0, l1, l2, l3, l4] st ((jv_as h a .int j (.int x)).getD h) := by
  obtain ⟨h', hv⟩ := Option.isSome_iff_exists.mp hs
  rw [hv]
  exact je_iast D120_49 rfl hv
theorem D120_50 : decode (jt_code 120) 50 = .ok (.aload_n 0, 1) := by decide +kernel
theorem E120_50 {call : jv_F} {l1 l2 l3 l4 : Option Value} {a : Nat} {st : List Value} {h : jv_H} : jv_ev call 120 50 [some (.ref a), l1, l2, l3, l4] st h = jv_ev call 120 51 [some (.ref a), l1, l2, l3, l4] (.ref a :: st) h := je_aload_n (r := some a) D120_50 rfl rfl
theorem D120_51 : decode (jt_code 120) 51 = .ok (.dup, 1) := by decide +kernel
theorem E120_51 {call : jv_F} {l0 l1 l2 l3 l4 : Option Value} {a : Nat} {st : List Value} {h : jv_H} : jv_ev call 120 51 [l0, l1, l2, l3, l4] (.ref a :: st) h = jv_ev call 120 52 [l0, l1, l2, l3, l4] (.ref a :: .ref a :: st) h := je_dup D120_51 rfl rfl
theorem E120_51i {call : jv_F} {l0 l1 l2 l3 l4 : Option Value} {x : Int32} {st : List Value} {h : jv_H} : jv_ev call 120 51 [l0, l1, l2, l3, l4] (.int x :: st) h = jv_ev call 120 52 [l0, l1, l2, l3, l4] (.int x :: .int x :: st) h := je_dup D120_51 rfl rfl
theorem D120_52 : decode (jt_code 120) 52 = .ok (.getfield 23, 3) := by decide +kernel
theorem E120_52 {call : jv_F} {l0 l1 l2 l3 l4 : Option Value} {a : Nat} {st : List Value} {h : jv_H} (hs : (jv_gf h a 5 3).isSome = true) : jv_ev call 120 52 [l0, l1, l2, l3, l4] (.ref a :: st) h = jv_ev call 120 55 [l0, l1, l2, l3, l4] ((jv_gf h a 5 3).getD .null :: st) h := by
  obtain ⟨v, hv⟩ := Option.isSome_iff_exists.mp hs
  rw [hv]
  exact je_get D120_52 rfl (by decide) hv
theorem D120_55 : decode (jt_code 120) 55 = .ok (.iconst 1, 1) := by decide +kernel
theorem E120_55 {call : jv_F} {l0 l1 l2 l3 l4 : Option Value}  {st : List Value} {h : jv_H} : jv_ev call 120 55 [l0, l1, l2, l3, l4] st h = jv_ev call 120 56 [l0, l1, l2, l3, l4] (.int (nI 1) :: st) h := je_iconst D120_55 rfl (by decide)
theorem D120_56 : decode (jt_code 120) 56 = .ok (.iadd, 1) := by decide +kernel
theorem E120_56 {call : jv_F} {l0 l1 l2 l3 l4 : Option Value} {x y : Int32} {st : List Value} {h : jv_H} : jv_ev call 120 56 [l0, l1, l2, l3, l4] (.int y :: .int x :: st) h = jv_ev call 120 57 [l0, l1, l2, l3, l4] (.int (x + y) :: st) h := je_b2 (f := fun x y => x + y) D120_56 rfl (fun _ => rfl)
theorem D120_57 : decode (jt_code 120) 57 = .ok (.putfield 23, 3) := by decide +kernel
theorem E120_57 {call : jv_F} {l0 l1 l2 l3 l4 : Option Value} {a : Nat} {v : Value} {st : List Value} {h : jv_H} (hs : (jv_pf h a 5 3 v).isSome = true) : jv_ev call 120 57 [l0, l1, l2, l3, l4] (v :: .ref a :: st) h = jv_ev call 120 60 [l0, l1, l2, l3, l4] st ((jv_pf h a 5 3 v).getD h) := by
  obtain ⟨h', hv⟩ := Option.isSome_iff_exists.mp hs
  rw [hv]
  exact je_put D120_57 rfl (by decide) (by decide) hv
theorem D120_60 : decode (jt_code 120) 60 = .ok (.iinc 4 1, 3) := by decide +kernel
theorem E120_60 {call : jv_F} {l0 l1 l2 l3 : Option Value} {x : Int32} {st : List Value} {h : jv_H} (hk : ¬ jv_is2 (some l3) = true) : jv_ev call 120 60 [l0, l1, l2, l3, some (.int x)] st h = jv_ev call 120 63 [l0, l1, l2, l3, some (.int (x + (nI 1)))] st h := je_iinc D120_60 rfl rfl (v := x + (nI 1)) (by rfl) (by show jv_st1 _ 4 _ = _; simp only [jv_st1, jv_kill, List.getElem?_cons_succ, List.getElem?_cons_zero, hk, if_false]; rfl)
theorem D120_63 : decode (jt_code 120) 63 = .ok (.goto (-60), 3) := by decide +kernel
theorem E120_63 {call : jv_F} {l0 l1 l2 l3 l4 : Option Value}  {st : List Value} {h : jv_H} : jv_ev call 120 63 [l0, l1, l2, l3, l4] st h = jv_ev call 120 3 [l0, l1, l2, l3, l4] st h := je_goto D120_63 (by decide)
theorem D120_66 : decode (jt_code 120) 66 = .ok (.return_, 1) := by decide +kernel
theorem E120_66 {call : jv_F} {l0 l1 l2 l3 l4 : Option Value}  {h : jv_H} : jv_ev call 120 66 [l0, l1, l2, l3, l4] [] h = some (none, h) := je_ret D120_66 rfl
/-! method 123: DrumMachine.frames -/
theorem N123 {d : Nat} {b : Nat} {a0 : Int32} {h : jv_H} : jv_run (d + 1) 123 [.ref b, .int a0] h = jv_ev (jv_run d) 123 0 [some (.ref b), some (.int a0)] [] h := jv_run_eq (Nat.le_of_ble_eq_true rfl) rfl
theorem D123_0 : decode (jt_code 123) 0 = .ok (.iload_n 1, 1) := by decide +kernel
theorem E123_0 {call : jv_F} {l0 : Option Value} {x : Int32} {st : List Value} {h : jv_H} : jv_ev call 123 0 [l0, some (.int x)] st h = jv_ev call 123 1 [l0, some (.int x)] (.int x :: st) h := je_iload_n D123_0 rfl rfl
theorem D123_1 : decode (jt_code 123) 1 = .ok (.iconst 3, 1) := by decide +kernel
theorem E123_1 {call : jv_F} {l0 l1 : Option Value}  {st : List Value} {h : jv_H} : jv_ev call 123 1 [l0, l1] st h = jv_ev call 123 2 [l0, l1] (.int (nI 3) :: st) h := je_iconst D123_1 rfl (by decide)
theorem D123_2 : decode (jt_code 123) 2 = .ok (.if_icmp .lt 16, 3) := by decide +kernel
theorem E123_2 {call : jv_F} {l0 l1 : Option Value} {x y : Int32} {st : List Value} {h : jv_H} : jv_ev call 123 2 [l0, l1] (.int y :: .int x :: st) h = if x < y then jv_ev call 123 18 [l0, l1] st h else jv_ev call 123 5 [l0, l1] st h := je_icmp D123_2 (by decide) rfl rfl
theorem D123_5 : decode (jt_code 123) 5 = .ok (.iload_n 1, 1) := by decide +kernel
theorem E123_5 {call : jv_F} {l0 : Option Value} {x : Int32} {st : List Value} {h : jv_H} : jv_ev call 123 5 [l0, some (.int x)] st h = jv_ev call 123 6 [l0, some (.int x)] (.int x :: st) h := je_iload_n D123_5 rfl rfl
theorem D123_6 : decode (jt_code 123) 6 = .ok (.bipush 17, 2) := by decide +kernel
theorem E123_6 {call : jv_F} {l0 l1 : Option Value}  {st : List Value} {h : jv_H} : jv_ev call 123 6 [l0, l1] st h = jv_ev call 123 8 [l0, l1] (.int (nI 17) :: st) h := je_bipush D123_6 rfl (by decide)
theorem D123_8 : decode (jt_code 123) 8 = .ok (.if_icmp .gt 10, 3) := by decide +kernel
theorem E123_8 {call : jv_F} {l0 l1 : Option Value} {x y : Int32} {st : List Value} {h : jv_H} : jv_ev call 123 8 [l0, l1] (.int y :: .int x :: st) h = if y < x then jv_ev call 123 18 [l0, l1] st h else jv_ev call 123 11 [l0, l1] st h := je_icmp D123_8 (by decide) rfl rfl
theorem D123_11 : decode (jt_code 123) 11 = .ok (.aload_n 0, 1) := by decide +kernel
theorem E123_11 {call : jv_F} {l1 : Option Value} {a : Nat} {st : List Value} {h : jv_H} : jv_ev call 123 11 [some (.ref a), l1] st h = jv_ev call 123 12 [some (.ref a), l1] (.ref a :: st) h := je_aload_n (r := some a) D123_11 rfl rfl
theorem D123_12 : decode (jt_code 123) 12 = .ok (.getfield 36, 3) := by decide +kernel
theorem E123_12 {call : jv_F} {l0 l1 : Option Value} {a : Nat} {st : List Value} {h : jv_H} (hs : (jv_gf h a 6 4).isSome = true) : jv_ev call 123 12 [l0, l1] (.ref a :: st) h = jv_ev call 123 15 [l0, l1] ((jv_gf h a 6 4).getD .null :: st) h := by
  obtain ⟨v, hv⟩ := Option.isSome_iff_exists.mp hs
  rw [hv]
  exact je_get D123_12 rfl (by decide) hv
theorem D123_15 : decode (jt_code 123) 15 = .ok (.ifCond .le 5, 3) := by decide +kernel
theorem E123_15 {call : jv_F} {l0 l1 : Option Value} {x : Int32} {st : List Value} {h : jv_H} : jv_ev call 123 15 [l0, l1] (.int x :: st) h = if x ≤ 0 then jv_ev call 123 20 [l0, l1] st h else jv_ev call 123 18 [l0, l1] st h := je_ifc D123_15 (by decide) rfl rfl
theorem D123_18 : decode (jt_code 123) 18 = .ok (.iconst (-1), 1) := by decide +kernel
theorem E123_18 {call : jv_F} {l0 l1 : Option Value}  {st : List Value} {h : jv_H} : jv_ev call 123 18 [l0, l1] st h = jv_ev call 123 19 [l0, l1] (.int (-1) :: st) h := je_iconst D123_18 rfl (by decide)
theorem D123_19 : decode (jt_code 123) 19 = .ok (.ireturn, 1) := by decide +kernel
theorem E123_19 {call : jv_F} {l0 l1 : Option Value} {v : Int32} {h : jv_H} : jv_ev call 123 19 [l0, l1] [.int v] h = some (some (.int v), h) := je_iret (ty := .int) D123_19 rfl rfl rfl
theorem D123_20 : decode (jt_code 123) 20 = .ok (.aload_n 0, 1) := by decide +kernel
theorem E123_20 {call : jv_F} {l1 : Option Value} {a : Nat} {st : List Value} {h : jv_H} : jv_ev call 123 20 [some (.ref a), l1] st h = jv_ev call 123 21 [some (.ref a), l1] (.ref a :: st) h := je_aload_n (r := some a) D123_20 rfl rfl
theorem D123_21 : decode (jt_code 123) 21 = .ok (.getfield 19, 3) := by decide +kernel
theorem E123_21 {call : jv_F} {l0 l1 : Option Value} {a : Nat} {st : List Value} {h : jv_H} (hs : (jv_gf h a 6 1).isSome = true) : jv_ev call 123 21 [l0, l1] (.ref a :: st) h = jv_ev call 123 24 [l0, l1] ((jv_gf h a 6 1).getD .null :: st) h := by
  obtain ⟨v, hv⟩ := Option.isSome_iff_exists.mp hs
  rw [hv]
  exact je_get D123_21 rfl (by decide) hv
theorem D123_24 : decode (jt_code 123) 24 = .ok (.iload_n 1, 1) := by decide +kernel
theorem E123_24 {call : jv_F} {l0 : Option Value} {x : Int32} {st : List Value} {h : jv_H} : jv_ev call 123 24 [l0, some (.int x)] st h = jv_ev call 123 25 [l0, some (.int x)] (.int x :: st) h := je_iload_n D123_24 rfl rfl
theorem D123_25 : decode (jt_code 123) 25 = .ok (.invokevirtual 61, 3) := by decide +kernel
theorem E123_25 {call : jv_F} {l0 l1 : Option Value} {b : Nat} {v0 : Value}  {st : List Value} {h : jv_H} (hw : jv_wide st = true) (hcl : jv_cl h b = some 2) (hc : (call 67 [.ref b, v0] h).isSome = true) : jv_ev call 123 25 [l0, l1] (v0 :: .ref b :: st) h = jv_ev call 123 28 [l0, l1] ((((call 67 [.ref b, v0] h).getD (none, h)).1).toList ++ st) ((call 67 [.ref b, v0] h).getD (none, h)).2 := by
  obtain ⟨⟨r, h'⟩, hv⟩ := Option.isSome_iff_exists.mp hc
  rw [hv]
  exact je_virt (y := 67) (as := [v0]) D123_25 rfl (by decide) (by decide) rfl hcl hw hv
theorem D123_28 : decode (jt_code 123) 28 = .ok (.iload_n 1, 1) := by decide +kernel
theorem E123_28 {call : jv_F} {l0 : Option Value} {x : Int32} {st : List Value} {h : jv_H} : jv_ev call 123 28 [l0, some (.int x)] st h = jv_ev call 123 29 [l0, some (.int x)] (.int x :: st) h := je_iload_n D123_28 rfl rfl
theorem D123_29 : decode (jt_code 123) 29 = .ok (.ireturn, 1) := by decide +kernel
theorem E123_29 {call : jv_F} {l0 l1 : Option Value} {v : Int32} {h : jv_H} : jv_ev call 123 29 [l0, l1] [.int v] h = some (some (.int v), h) := je_iret (ty := .int) D123_29 rfl rfl rfl
/-! method 124: DrumMachine.words -/
theorem N124 {d : Nat} {b : Nat} {a0 : Int64} {a1 : Int64} {a2 : Int64} {a3 : Int64} {a4 : Int64} {h : jv_H} : jv_run (d + 1) 124 [.ref b, .long a0, .long a1, .long a2, .long a3, .long a4] h = jv_ev (jv_run d) 124 0 [some (.ref b), some (.long a0), none, some (.long a1), none, some (.long a2), none, some (.long a3), none, some (.long a4), none] [] h := jv_run_eq (Nat.le_of_ble_eq_true rfl) rfl
theorem D124_0 : decode (jt_code 124) 0 = .ok (.aload_n 0, 1) := by decide +kernel
theorem E124_0 {call : jv_F} {l1 l2 l3 l4 l5 l6 l7 l8 l9 l10 : Option Value} {a : Nat} {st : List Value} {h : jv_H} : jv_ev call 124 0 [some (.ref a), l1, l2, l3, l4, l5, l6, l7, l8, l9, l10] st h = jv_ev call 124 1 [some (.ref a), l1, l2, l3, l4, l5, l6, l7, l8, l9, l10] (.ref a :: st) h := je_aload_n (r := some a) D124_0 rfl rfl
theorem D124_1 : decode (jt_code 124) 1 = .ok (.getfield 12, 3) := by decide +kernel
theorem E124_1 {call : jv_F} {l0 l1 l2 l3 l4 l5 l6 l7 l8 l9 l10 : Option Value} {a : Nat} {st : List Value} {h : jv_H} (hs : (jv_gf h a 6 0).isSome = true) : jv_ev call 124 1 [l0, l1, l2, l3, l4, l5, l6, l7, l8, l9, l10] (.ref a :: st) h = jv_ev call 124 4 [l0, l1, l2, l3, l4, l5, l6, l7, l8, l9, l10] ((jv_gf h a 6 0).getD .null :: st) h := by
  obtain ⟨v, hv⟩ := Option.isSome_iff_exists.mp hs
  rw [hv]
  exact je_get D124_1 rfl (by decide) hv
theorem D124_4 : decode (jt_code 124) 4 = .ok (.iconst 5, 1) := by decide +kernel
theorem E124_4 {call : jv_F} {l0 l1 l2 l3 l4 l5 l6 l7 l8 l9 l10 : Option Value}  {st : List Value} {h : jv_H} : jv_ev call 124 4 [l0, l1, l2, l3, l4, l5, l6, l7, l8, l9, l10] st h = jv_ev call 124 5 [l0, l1, l2, l3, l4, l5, l6, l7, l8, l9, l10] (.int (nI 5) :: st) h := je_iconst D124_4 rfl (by decide)
theorem D124_5 : decode (jt_code 124) 5 = .ok (.invokevirtual 65, 3) := by decide +kernel
theorem E124_5 {call : jv_F} {l0 l1 l2 l3 l4 l5 l6 l7 l8 l9 l10 : Option Value} {b : Nat} {v0 : Value}  {st : List Value} {h : jv_H} (hw : jv_wide st = true) (hcl : jv_cl h b = some 5) (hc : (call 117 [.ref b, v0] h).isSome = true) : jv_ev call 124 5 [l0, l1, l2, l3, l4, l5, l6, l7, l8, l9, l10] (v0 :: .ref b :: st) h = jv_ev call 124 8 [l0, l1, l2, l3, l4, l5, l6, l7, l8, l9, l10] ((((call 117 [.ref b, v0] h).getD (none, h)).1).toList ++ st) ((call 117 [.ref b, v0] h).getD (none, h)).2 := by
  obtain ⟨⟨r, h'⟩, hv⟩ := Option.isSome_iff_exists.mp hc
  rw [hv]
  exact je_virt (y := 117) (as := [v0]) D124_5 rfl (by decide) (by decide) rfl hcl hw hv
theorem D124_8 : decode (jt_code 124) 8 = .ok (.ifCond .ne 5, 3) := by decide +kernel
theorem E124_8 {call : jv_F} {l0 l1 l2 l3 l4 l5 l6 l7 l8 l9 l10 : Option Value} {x : Int32} {st : List Value} {h : jv_H} : jv_ev call 124 8 [l0, l1, l2, l3, l4, l5, l6, l7, l8, l9, l10] (.int x :: st) h = if ¬ x = 0 then jv_ev call 124 13 [l0, l1, l2, l3, l4, l5, l6, l7, l8, l9, l10] st h else jv_ev call 124 11 [l0, l1, l2, l3, l4, l5, l6, l7, l8, l9, l10] st h := je_ifc D124_8 (by decide) rfl rfl
theorem D124_11 : decode (jt_code 124) 11 = .ok (.iconst (-1), 1) := by decide +kernel
theorem E124_11 {call : jv_F} {l0 l1 l2 l3 l4 l5 l6 l7 l8 l9 l10 : Option Value}  {st : List Value} {h : jv_H} : jv_ev call 124 11 [l0, l1, l2, l3, l4, l5, l6, l7, l8, l9, l10] st h = jv_ev call 124 12 [l0, l1, l2, l3, l4, l5, l6, l7, l8, l9, l10] (.int (-1) :: st) h := je_iconst D124_11 rfl (by decide)
theorem D124_12 : decode (jt_code 124) 12 = .ok (.ireturn, 1) := by decide +kernel
theorem E124_12 {call : jv_F} {l0 l1 l2 l3 l4 l5 l6 l7 l8 l9 l10 : Option Value} {v : Int32} {h : jv_H} : jv_ev call 124 12 [l0, l1, l2, l3, l4, l5, l6, l7, l8, l9, l10] [.int v] h = some (some (.int v), h) := je_iret (ty := .int) D124_12 rfl rfl rfl
theorem D124_13 : decode (jt_code 124) 13 = .ok (.aload_n 0, 1) := by decide +kernel
theorem E124_13 {call : jv_F} {l1 l2 l3 l4 l5 l6 l7 l8 l9 l10 : Option Value} {a : Nat} {st : List Value} {h : jv_H} : jv_ev call 124 13 [some (.ref a), l1, l2, l3, l4, l5, l6, l7, l8, l9, l10] st h = jv_ev call 124 14 [some (.ref a), l1, l2, l3, l4, l5, l6, l7, l8, l9, l10] (.ref a :: st) h := je_aload_n (r := some a) D124_13 rfl rfl
theorem D124_14 : decode (jt_code 124) 14 = .ok (.getfield 12, 3) := by decide +kernel
theorem E124_14 {call : jv_F} {l0 l1 l2 l3 l4 l5 l6 l7 l8 l9 l10 : Option Value} {a : Nat} {st : List Value} {h : jv_H} (hs : (jv_gf h a 6 0).isSome = true) : jv_ev call 124 14 [l0, l1, l2, l3, l4, l5, l6, l7, l8, l9, l10] (.ref a :: st) h = jv_ev call 124 17 [l0, l1, l2, l3, l4, l5, l6, l7, l8, l9, l10] ((jv_gf h a 6 0).getD .null :: st) h := by
  obtain ⟨v, hv⟩ := Option.isSome_iff_exists.mp hs
  rw [hv]
  exact je_get D124_14 rfl (by decide) hv
theorem D124_17 : decode (jt_code 124) 17 = .ok (.lload_n 1, 1) := by decide +kernel
theorem E124_17 {call : jv_F} {l0 l2 l3 l4 l5 l6 l7 l8 l9 l10 : Option Value} {x : Int64} {st : List Value} {h : jv_H} : jv_ev call 124 17 [l0, some (.long x), l2, l3, l4, l5, l6, l7, l8, l9, l10] st h = jv_ev call 124 18 [l0, some (.long x), l2, l3, l4, l5, l6, l7, l8, l9, l10] (.long x :: st) h := je_lload_n D124_17 rfl rfl
theorem D124_18 : decode (jt_code 124) 18 = .ok (.invokevirtual 69, 3) := by decide +kernel
theorem E124_18 {call : jv_F} {l0 l1 l2 l3 l4 l5 l6 l7 l8 l9 l10 : Option Value} {b : Nat} {v0 : Value}  {st : List Value} {h : jv_H} (hw : jv_wide st = true) (hcl : jv_cl h b = some 5) (hc : (call 119 [.ref b, v0] h).isSome = true) : jv_ev call 124 18 [l0, l1, l2, l3, l4, l5, l6, l7, l8, l9, l10] (v0 :: .ref b :: st) h = jv_ev call 124 21 [l0, l1, l2, l3, l4, l5, l6, l7, l8, l9, l10] ((((call 119 [.ref b, v0] h).getD (none, h)).1).toList ++ st) ((call 119 [.ref b, v0] h).getD (none, h)).2 := by
  obtain ⟨⟨r, h'⟩, hv⟩ := Option.isSome_iff_exists.mp hc
  rw [hv]
  exact je_virt (y := 119) (as := [v0]) D124_18 rfl (by decide) (by decide) rfl hcl hw hv
theorem D124_21 : decode (jt_code 124) 21 = .ok (.aload_n 0, 1) := by decide +kernel
theorem E124_21 {call : jv_F} {l1 l2 l3 l4 l5 l6 l7 l8 l9 l10 : Option Value} {a : Nat} {st : List Value} {h : jv_H} : jv_ev call 124 21 [some (.ref a), l1, l2, l3, l4, l5, l6, l7, l8, l9, l10] st h = jv_ev call 124 22 [some (.ref a), l1, l2, l3, l4, l5, l6, l7, l8, l9, l10] (.ref a :: st) h := je_aload_n (r := some a) D124_21 rfl rfl
theorem D124_22 : decode (jt_code 124) 22 = .ok (.getfield 12, 3) := by decide +kernel
theorem E124_22 {call : jv_F} {l0 l1 l2 l3 l4 l5 l6 l7 l8 l9 l10 : Option Value} {a : Nat} {st : List Value} {h : jv_H} (hs : (jv_gf h a 6 0).isSome = true) : jv_ev call 124 22 [l0, l1, l2, l3, l4, l5, l6, l7, l8, l9, l10] (.ref a :: st) h = jv_ev call 124 25 [l0, l1, l2, l3, l4, l5, l6, l7, l8, l9, l10] ((jv_gf h a 6 0).getD .null :: st) h := by
  obtain ⟨v, hv⟩ := Option.isSome_iff_exists.mp hs
  rw [hv]
  exact je_get D124_22 rfl (by decide) hv
theorem D124_25 : decode (jt_code 124) 25 = .ok (.lload_n 3, 1) := by decide +kernel
theorem E124_25 {call : jv_F} {l0 l1 l2 l4 l5 l6 l7 l8 l9 l10 : Option Value} {x : Int64} {st : List Value} {h : jv_H} : jv_ev call 124 25 [l0, l1, l2, some (.long x), l4, l5, l6, l7, l8, l9, l10] st h = jv_ev call 124 26 [l0, l1, l2, some (.long x), l4, l5, l6, l7, l8, l9, l10] (.long x :: st) h := je_lload_n D124_25 rfl rfl
theorem D124_26 : decode (jt_code 124) 26 = .ok (.invokevirtual 69, 3) := by decide +kernel
theorem E124_26 {call : jv_F} {l0 l1 l2 l3 l4 l5 l6 l7 l8 l9 l10 : Option Value} {b : Nat} {v0 : Value}  {st : List Value} {h : jv_H} (hw : jv_wide st = true) (hcl : jv_cl h b = some 5) (hc : (call 119 [.ref b, v0] h).isSome = true) : jv_ev call 124 26 [l0, l1, l2, l3, l4, l5, l6, l7, l8, l9, l10] (v0 :: .ref b :: st) h = jv_ev call 124 29 [l0, l1, l2, l3, l4, l5, l6, l7, l8, l9, l10] ((((call 119 [.ref b, v0] h).getD (none, h)).1).toList ++ st) ((call 119 [.ref b, v0] h).getD (none, h)).2 := by
  obtain ⟨⟨r, h'⟩, hv⟩ := Option.isSome_iff_exists.mp hc
  rw [hv]
  exact je_virt (y := 119) (as := [v0]) D124_26 rfl (by decide) (by decide) rfl hcl hw hv
theorem D124_29 : decode (jt_code 124) 29 = .ok (.aload_n 0, 1) := by decide +kernel
theorem E124_29 {call : jv_F} {l1 l2 l3 l4 l5 l6 l7 l8 l9 l10 : Option Value} {a : Nat} {st : List Value} {h : jv_H} : jv_ev call 124 29 [some (.ref a), l1, l2, l3, l4, l5, l6, l7, l8, l9, l10] st h = jv_ev call 124 30 [some (.ref a), l1, l2, l3, l4, l5, l6, l7, l8, l9, l10] (.ref a :: st) h := je_aload_n (r := some a) D124_29 rfl rfl
theorem D124_30 : decode (jt_code 124) 30 = .ok (.getfield 12, 3) := by decide +kernel
theorem E124_30 {call : jv_F} {l0 l1 l2 l3 l4 l5 l6 l7 l8 l9 l10 : Option Value} {a : Nat} {st : List Value} {h : jv_H} (hs : (jv_gf h a 6 0).isSome = true) : jv_ev call 124 30 [l0, l1, l2, l3, l4, l5, l6, l7, l8, l9, l10] (.ref a :: st) h = jv_ev call 124 33 [l0, l1, l2, l3, l4, l5, l6, l7, l8, l9, l10] ((jv_gf h a 6 0).getD .null :: st) h := by
  obtain ⟨v, hv⟩ := Option.isSome_iff_exists.mp hs
  rw [hv]
  exact je_get D124_30 rfl (by decide) hv
theorem D124_33 : decode (jt_code 124) 33 = .ok (.lload 5, 2) := by decide +kernel
theorem E124_33 {call : jv_F} {l0 l1 l2 l3 l4 l6 l7 l8 l9 l10 : Option Value} {x : Int64} {st : List Value} {h : jv_H} : jv_ev call 124 33 [l0, l1, l2, l3, l4, some (.long x), l6, l7, l8, l9, l10] st h = jv_ev call 124 35 [l0, l1, l2, l3, l4, some (.long x), l6, l7, l8, l9, l10] (.long x :: st) h := je_lload D124_33 rfl rfl
theorem D124_35 : decode (jt_code 124) 35 = .ok (.invokevirtual 69, 3) := by decide +kernel
theorem E124_35 {call : jv_F} {l0 l1 l2 l3 l4 l5 l6 l7 l8 l9 l10 : Option Value} {b : Nat} {v0 : Value}  {st : List Value} {h : jv_H} (hw : jv_wide st = true) (hcl : jv_cl h b = some 5) (hc : (call 119 [.ref b, v0] h).isSome = true) : jv_ev call 124 35 [l0, l1, l2, l3, l4, l5, l6, l7, l8, l9, l10] (v0 :: .ref b :: st) h = jv_ev call 124 38 [l0, l1, l2, l3, l4, l5, l6, l7, l8, l9, l10] ((((call 119 [.ref b, v0] h).getD (none, h)).1).toList ++ st) ((call 119 [.ref b, v0] h).getD (none, h)).2 := by
  obtain ⟨⟨r, h'⟩, hv⟩ := Option.isSome_iff_exists.mp hc
  rw [hv]
  exact je_virt (y := 119) (as := [v0]) D124_35 rfl (by decide) (by decide) rfl hcl hw hv
theorem D124_38 : decode (jt_code 124) 38 = .ok (.aload_n 0, 1) := by decide +kernel
theorem E124_38 {call : jv_F} {l1 l2 l3 l4 l5 l6 l7 l8 l9 l10 : Option Value} {a : Nat} {st : List Value} {h : jv_H} : jv_ev call 124 38 [some (.ref a), l1, l2, l3, l4, l5, l6, l7, l8, l9, l10] st h = jv_ev call 124 39 [some (.ref a), l1, l2, l3, l4, l5, l6, l7, l8, l9, l10] (.ref a :: st) h := je_aload_n (r := some a) D124_38 rfl rfl
theorem D124_39 : decode (jt_code 124) 39 = .ok (.getfield 12, 3) := by decide +kernel
theorem E124_39 {call : jv_F} {l0 l1 l2 l3 l4 l5 l6 l7 l8 l9 l10 : Option Value} {a : Nat} {st : List Value} {h : jv_H} (hs : (jv_gf h a 6 0).isSome = true) : jv_ev call 124 39 [l0, l1, l2, l3, l4, l5, l6, l7, l8, l9, l10] (.ref a :: st) h = jv_ev call 124 42 [l0, l1, l2, l3, l4, l5, l6, l7, l8, l9, l10] ((jv_gf h a 6 0).getD .null :: st) h := by
  obtain ⟨v, hv⟩ := Option.isSome_iff_exists.mp hs
  rw [hv]
  exact je_get D124_39 rfl (by decide) hv
theorem D124_42 : decode (jt_code 124) 42 = .ok (.lload 7, 2) := by decide +kernel
theorem E124_42 {call : jv_F} {l0 l1 l2 l3 l4 l5 l6 l8 l9 l10 : Option Value} {x : Int64} {st : List Value} {h : jv_H} : jv_ev call 124 42 [l0, l1, l2, l3, l4, l5, l6, some (.long x), l8, l9, l10] st h = jv_ev call 124 44 [l0, l1, l2, l3, l4, l5, l6, some (.long x), l8, l9, l10] (.long x :: st) h := je_lload D124_42 rfl rfl
theorem D124_44 : decode (jt_code 124) 44 = .ok (.invokevirtual 69, 3) := by decide +kernel
theorem E124_44 {call : jv_F} {l0 l1 l2 l3 l4 l5 l6 l7 l8 l9 l10 : Option Value} {b : Nat} {v0 : Value}  {st : List Value} {h : jv_H} (hw : jv_wide st = true) (hcl : jv_cl h b = some 5) (hc : (call 119 [.ref b, v0] h).isSome = true) : jv_ev call 124 44 [l0, l1, l2, l3, l4, l5, l6, l7, l8, l9, l10] (v0 :: .ref b :: st) h = jv_ev call 124 47 [l0, l1, l2, l3, l4, l5, l6, l7, l8, l9, l10] ((((call 119 [.ref b, v0] h).getD (none, h)).1).toList ++ st) ((call 119 [.ref b, v0] h).getD (none, h)).2 := by
  obtain ⟨⟨r, h'⟩, hv⟩ := Option.isSome_iff_exists.mp hc
  rw [hv]
  exact je_virt (y := 119) (as := [v0]) D124_44 rfl (by decide) (by decide) rfl hcl hw hv
theorem D124_47 : decode (jt_code 124) 47 = .ok (.aload_n 0, 1) := by decide +kernel
theorem E124_47 {call : jv_F} {l1 l2 l3 l4 l5 l6 l7 l8 l9 l10 : Option Value} {a : Nat} {st : List Value} {h : jv_H} : jv_ev call 124 47 [some (.ref a), l1, l2, l3, l4, l5, l6, l7, l8, l9, l10] st h = jv_ev call 124 48 [some (.ref a), l1, l2, l3, l4, l5, l6, l7, l8, l9, l10] (.ref a :: st) h := je_aload_n (r := some a) D124_47 rfl rfl
theorem D124_48 : decode (jt_code 124) 48 = .ok (.getfield 12, 3) := by decide +kernel
theorem E124_48 {call : jv_F} {l0 l1 l2 l3 l4 l5 l6 l7 l8 l9 l10 : Option Value} {a : Nat} {st : List Value} {h : jv_H} (hs : (jv_gf h a 6 0).isSome = true) : jv_ev call 124 48 [l0, l1, l2, l3, l4, l5, l6, l7, l8, l9, l10] (.ref a :: st) h = jv_ev call 124 51 [l0, l1, l2, l3, l4, l5, l6, l7, l8, l9, l10] ((jv_gf h a 6 0).getD .null :: st) h := by
  obtain ⟨v, hv⟩ := Option.isSome_iff_exists.mp hs
  rw [hv]
  exact je_get D124_48 rfl (by decide) hv
theorem D124_51 : decode (jt_code 124) 51 = .ok (.lload 9, 2) := by decide +kernel
theorem E124_51 {call : jv_F} {l0 l1 l2 l3 l4 l5 l6 l7 l8 l10 : Option Value} {x : Int64} {st : List Value} {h : jv_H} : jv_ev call 124 51 [l0, l1, l2, l3, l4, l5, l6, l7, l8, some (.long x), l10] st h = jv_ev call 124 53 [l0, l1, l2, l3, l4, l5, l6, l7, l8, some (.long x), l10] (.long x :: st) h := je_lload D124_51 rfl rfl
theorem D124_53 : decode (jt_code 124) 53 = .ok (.invokevirtual 69, 3) := by decide +kernel
theorem E124_53 {call : jv_F} {l0 l1 l2 l3 l4 l5 l6 l7 l8 l9 l10 : Option Value} {b : Nat} {v0 : Value}  {st : List Value} {h : jv_H} (hw : jv_wide st = true) (hcl : jv_cl h b = some 5) (hc : (call 119 [.ref b, v0] h).isSome = true) : jv_ev call 124 53 [l0, l1, l2, l3, l4, l5, l6, l7, l8, l9, l10] (v0 :: .ref b :: st) h = jv_ev call 124 56 [l0, l1, l2, l3, l4, l5, l6, l7, l8, l9, l10] ((((call 119 [.ref b, v0] h).getD (none, h)).1).toList ++ st) ((call 119 [.ref b, v0] h).getD (none, h)).2 := by
  obtain ⟨⟨r, h'⟩, hv⟩ := Option.isSome_iff_exists.mp hc
  rw [hv]
  exact je_virt (y := 119) (as := [v0]) D124_53 rfl (by decide) (by decide) rfl hcl hw hv
theorem D124_56 : decode (jt_code 124) 56 = .ok (.aload_n 0, 1) := by decide +kernel
theorem E124_56 {call : jv_F} {l1 l2 l3 l4 l5 l6 l7 l8 l9 l10 : Option Value} {a : Nat} {st : List Value} {h : jv_H} : jv_ev call 124 56 [some (.ref a), l1, l2, l3, l4, l5, l6, l7, l8, l9, l10] st h = jv_ev call 124 57 [some (.ref a), l1, l2, l3, l4, l5, l6, l7, l8, l9, l10] (.ref a :: st) h := je_aload_n (r := some a) D124_56 rfl rfl
theorem D124_57 : decode (jt_code 124) 57 = .ok (.getfield 12, 3) := by decide +kernel
theorem E124_57 {call : jv_F} {l0 l1 l2 l3 l4 l5 l6 l7 l8 l9 l10 : Option Value} {a : Nat} {st : List Value} {h : jv_H} (hs : (jv_gf h a 6 0).isSome = true) : jv_ev call 124 57 [l0, l1, l2, l3, l4, l5, l6, l7, l8, l9, l10] (.ref a :: st) h = jv_ev call 124 60 [l0, l1, l2, l3, l4, l5, l6, l7, l8, l9, l10] ((jv_gf h a 6 0).getD .null :: st) h := by
  obtain ⟨v, hv⟩ := Option.isSome_iff_exists.mp hs
  rw [hv]
  exact je_get D124_57 rfl (by decide) hv
theorem D124_60 : decode (jt_code 124) 60 = .ok (.getfield 73, 3) := by decide +kernel
theorem E124_60 {call : jv_F} {l0 l1 l2 l3 l4 l5 l6 l7 l8 l9 l10 : Option Value} {a : Nat} {st : List Value} {h : jv_H} (hs : (jv_gf h a 5 2).isSome = true) : jv_ev call 124 60 [l0, l1, l2, l3, l4, l5, l6, l7, l8, l9, l10] (.ref a :: st) h = jv_ev call 124 63 [l0, l1, l2, l3, l4, l5, l6, l7, l8, l9, l10] ((jv_gf h a 5 2).getD .null :: st) h := by
  obtain ⟨v, hv⟩ := Option.isSome_iff_exists.mp hs
  rw [hv]
  exact je_get D124_60 rfl (by decide) hv
theorem D124_63 : decode (jt_code 124) 63 = .ok (.ireturn, 1) := by decide +kernel
theorem E124_63 {call : jv_F} {l0 l1 l2 l3 l4 l5 l6 l7 l8 l9 l10 : Option Value} {v : Int32} {h : jv_H} : jv_ev call 124 63 [l0, l1, l2, l3, l4, l5, l6, l7, l8, l9, l10] [.int v] h = some (some (.int v), h) := je_iret (ty := .int) D124_63 rfl rfl rfl
/-! method 125: DrumMachine.bytes -/
theorem N125 {d : Nat} {b : Nat} {a0 : Int64} {a1 : Int64} {a2 : Int64} {a3 : Int64} {a4 : Int32} {h : jv_H} : jv_run (d + 1) 125 [.ref b, .long a0, .long a1, .long a2, .long a3, .int a4] h = jv_ev (jv_run d) 125 0 [some (.ref b), some (.long a0), none, some (.long a1), none, some (.long a2), none, some (.long a3), none, some (.int a4)] [] h := jv_run_eq (Nat.le_of_ble_eq_true rfl) rfl
theorem D125_0 : decode (jt_code 125) 0 = .ok (.iload 9, 2) := by decide +kernel
theorem E125_0 {call : jv_F} {l0 l1 l2 l3 l4 l5 l6 l7 l8 : Option Value} {x : Int32} {st : List Value} {h : jv_H} : jv_ev call 125 0 [l0, l1, l2, l3, l4, l5, l6, l7, l8, some (.int x)] st h = jv_ev call 125 2 [l0, l1, l2, l3, l4, l5, l6, l7, l8, some (.int x)] (.int x :: st) h := je_iload D125_0 rfl rfl
theorem D125_2 : decode (jt_code 125) 2 = .ok (.ifCond .lt 22, 3) := by decide +kernel
theorem E125_2 {call : jv_F} {l0 l1 l2 l3 l4 l5 l6 l7 l8 l9 : Option Value} {x : Int32} {st : List Value} {h : jv_H} : jv_ev call 125 2 [l0, l1, l2, l3, l4, l5, l6, l7, l8, l9] (.int x :: st) h = if x < 0 then jv_ev call 125 24 [l0, l1, l2, l3, l4, l5, l6, l7, l8, l9] st h else jv_ev call 125 5 [l0, l1, l2, l3, l4, l5, l6, l7, l8, l9] st h := je_ifc D125_2 (by decide) rfl rfl
theorem D125_5 : decode (jt_code 125) 5 = .ok (.iload 9, 2) := by decide +kernel
theorem E125_5 {call : jv_F} {l0 l1 l2 l3 l4 l5 l6 l7 l8 : Option Value} {x : Int32} {st : List Value} {h : jv_H} : jv_ev call 125 5 [l0, l1, l2, l3, l4, l5, l6, l7, l8, some (.int x)] st h = jv_ev call 125 7 [l0, l1, l2, l3, l4, l5, l6, l7, l8, some (.int x)] (.int x :: st) h := je_iload D125_5 rfl rfl
theorem D125_7 : decode (jt_code 125) 7 = .ok (.bipush 32, 2) := by decide +kernel
theorem E125_7 {call : jv_F} {l0 l1 l2 l3 l4 l5 l6 l7 l8 l9 : Option Value}  {st : List Value} {h : jv_H} : jv_ev call 125 7 [l0, l1, l2, l3, l4, l5, l6, l7, l8, l9] st h = jv_ev call 125 9 [l0, l1, l2, l3, l4, l5, l6, l7, l8, l9] (.int (nI 32) :: st) h := je_bipush D125_7 rfl (by decide)
theorem D125_9 : decode (jt_code 125) 9 = .ok (.if_icmp .gt 15, 3) := by decide +kernel
theorem E125_9 {call : jv_F} {l0 l1 l2 l3 l4 l5 l6 l7 l8 l9 : Option Value} {x y : Int32} {st : List Value} {h : jv_H} : jv_ev call 125 9 [l0, l1, l2, l3, l4, l5, l6, l7, l8, l9] (.int y :: .int x :: st) h = if y < x then jv_ev call 125 24 [l0, l1, l2, l3, l4, l5, l6, l7, l8, l9] st h else jv_ev call 125 12 [l0, l1, l2, l3, l4, l5, l6, l7, l8, l9] st h := je_icmp D125_9 (by decide) rfl rfl
theorem D125_12 : decode (jt_code 125) 12 = .ok (.aload_n 0, 1) := by decide +kernel
theorem E125_12 {call : jv_F} {l1 l2 l3 l4 l5 l6 l7 l8 l9 : Option Value} {a : Nat} {st : List Value} {h : jv_H} : jv_ev call 125 12 [some (.ref a), l1, l2, l3, l4, l5, l6, l7, l8, l9] st h = jv_ev call 125 13 [some (.ref a), l1, l2, l3, l4, l5, l6, l7, l8, l9] (.ref a :: st) h := je_aload_n (r := some a) D125_12 rfl rfl
theorem D125_13 : decode (jt_code 125) 13 = .ok (.getfield 12, 3) := by decide +kernel
theorem E125_13 {call : jv_F} {l0 l1 l2 l3 l4 l5 l6 l7 l8 l9 : Option Value} {a : Nat} {st : List Value} {h : jv_H} (hs : (jv_gf h a 6 0).isSome = true) : jv_ev call 125 13 [l0, l1, l2, l3, l4, l5, l6, l7, l8, l9] (.ref a :: st) h = jv_ev call 125 16 [l0, l1, l2, l3, l4, l5, l6, l7, l8, l9] ((jv_gf h a 6 0).getD .null :: st) h := by
  obtain ⟨v, hv⟩ := Option.isSome_iff_exists.mp hs
  rw [hv]
  exact je_get D125_13 rfl (by decide) hv
theorem D125_16 : decode (jt_code 125) 16 = .ok (.iload 9, 2) := by decide +kernel
theorem E125_16 {call : jv_F} {l0 l1 l2 l3 l4 l5 l6 l7 l8 : Option Value} {x : Int32} {st : List Value} {h : jv_H} : jv_ev call 125 16 [l0, l1, l2, l3, l4, l5, l6, l7, l8, some (.int x)] st h = jv_ev call 125 18 [l0, l1, l2, l3, l4, l5, l6, l7, l8, some (.int x)] (.int x :: st) h := je_iload D125_16 rfl rfl
theorem D125_18 : decode (jt_code 125) 18 = .ok (.invokevirtual 76, 3) := by decide +kernel
theorem E125_18 {call : jv_F} {l0 l1 l2 l3 l4 l5 l6 l7 l8 l9 : Option Value} {b : Nat} {v0 : Value}  {st : List Value} {h : jv_H} (hw : jv_wide st = true) (hcl : jv_cl h b = some 5) (hc : (call 118 [.ref b, v0] h).isSome = true) : jv_ev call 125 18 [l0, l1, l2, l3, l4, l5, l6, l7, l8, l9] (v0 :: .ref b :: st) h = jv_ev call 125 21 [l0, l1, l2, l3, l4, l5, l6, l7, l8, l9] ((((call 118 [.ref b, v0] h).getD (none, h)).1).toList ++ st) ((call 118 [.ref b, v0] h).getD (none, h)).2 := by
  obtain ⟨⟨r, h'⟩, hv⟩ := Option.isSome_iff_exists.mp hc
  rw [hv]
  exact je_virt (y := 118) (as := [v0]) D125_18 rfl (by decide) (by decide) rfl hcl hw hv
theorem D125_21 : decode (jt_code 125) 21 = .ok (.ifCond .ne 5, 3) := by decide +kernel
theorem E125_21 {call : jv_F} {l0 l1 l2 l3 l4 l5 l6 l7 l8 l9 : Option Value} {x : Int32} {st : List Value} {h : jv_H} : jv_ev call 125 21 [l0, l1, l2, l3, l4, l5, l6, l7, l8, l9] (.int x :: st) h = if ¬ x = 0 then jv_ev call 125 26 [l0, l1, l2, l3, l4, l5, l6, l7, l8, l9] st h else jv_ev call 125 24 [l0, l1, l2, l3, l4, l5, l6, l7, l8, l9] st h := je_ifc D125_21 (by decide) rfl rfl
theorem D125_24 : decode (jt_code 125) 24 = .ok (.iconst (-1), 1) := by decide +kernel
theorem E125_24 {call : jv_F} {l0 l1 l2 l3 l4 l5 l6 l7 l8 l9 : Option Value}  {st : List Value} {h : jv_H} : jv_ev call 125 24 [l0, l1, l2, l3, l4, l5, l6, l7, l8, l9] st h = jv_ev call 125 25 [l0, l1, l2, l3, l4, l5, l6, l7, l8, l9] (.int (-1) :: st) h := je_iconst D125_24 rfl (by decide)
theorem D125_25 : decode (jt_code 125) 25 = .ok (.ireturn, 1) := by decide +kernel
theorem E125_25 {call : jv_F} {l0 l1 l2 l3 l4 l5 l6 l7 l8 l9 : Option Value} {v : Int32} {h : jv_H} : jv_ev call 125 25 [l0, l1, l2, l3, l4, l5, l6, l7, l8, l9] [.int v] h = some (some (.int v), h) := je_iret (ty := .int) D125_25 rfl rfl rfl
theorem D125_26 : decode (jt_code 125) 26 = .ok (.aload_n 0, 1) := by decide +kernel
theorem E125_26 {call : jv_F} {l1 l2 l3 l4 l5 l6 l7 l8 l9 : Option Value} {a : Nat} {st : List Value} {h : jv_H} : jv_ev call 125 26 [some (.ref a), l1, l2, l3, l4, l5, l6, l7, l8, l9] st h = jv_ev call 125 27 [some (.ref a), l1, l2, l3, l4, l5, l6, l7, l8, l9] (.ref a :: st) h := je_aload_n (r := some a) D125_26 rfl rfl
theorem D125_27 : decode (jt_code 125) 27 = .ok (.getfield 12, 3) := by decide +kernel
theorem E125_27 {call : jv_F} {l0 l1 l2 l3 l4 l5 l6 l7 l8 l9 : Option Value} {a : Nat} {st : List Value} {h : jv_H} (hs : (jv_gf h a 6 0).isSome = true) : jv_ev call 125 27 [l0, l1, l2, l3, l4, l5, l6, l7, l8, l9] (.ref a :: st) h = jv_ev call 125 30 [l0, l1, l2, l3, l4, l5, l6, l7, l8, l9] ((jv_gf h a 6 0).getD .null :: st) h := by
  obtain ⟨v, hv⟩ := Option.isSome_iff_exists.mp hs
  rw [hv]
  exact je_get D125_27 rfl (by decide) hv
theorem D125_30 : decode (jt_code 125) 30 = .ok (.lload_n 1, 1) := by decide +kernel
theorem E125_30 {call : jv_F} {l0 l2 l3 l4 l5 l6 l7 l8 l9 : Option Value} {x : Int64} {st : List Value} {h : jv_H} : jv_ev call 125 30 [l0, some (.long x), l2, l3, l4, l5, l6, l7, l8, l9] st h = jv_ev call 125 31 [l0, some (.long x), l2, l3, l4, l5, l6, l7, l8, l9] (.long x :: st) h := je_lload_n D125_30 rfl rfl
theorem D125_31 : decode (jt_code 125) 31 = .ok (.iload 9, 2) := by decide +kernel
theorem E125_31 {call : jv_F} {l0 l1 l2 l3 l4 l5 l6 l7 l8 : Option Value} {x : Int32} {st : List Value} {h : jv_H} : jv_ev call 125 31 [l0, l1, l2, l3, l4, l5, l6, l7, l8, some (.int x)] st h = jv_ev call 125 33 [l0, l1, l2, l3, l4, l5, l6, l7, l8, some (.int x)] (.int x :: st) h := je_iload D125_31 rfl rfl
theorem D125_33 : decode (jt_code 125) 33 = .ok (.invokevirtual 79, 3) := by decide +kernel
theorem E125_33 {call : jv_F} {l0 l1 l2 l3 l4 l5 l6 l7 l8 l9 : Option Value} {b : Nat} {v0 v1 : Value}  {st : List Value} {h : jv_H} (hw : jv_wide st = true) (hcl : jv_cl h b = some 5) (hc : (call 120 [.ref b, v0, v1] h).isSome = true) : jv_ev call 125 33 [l0, l1, l2, l3, l4, l5, l6, l7, l8, l9] (v1 :: v0 :: .ref b :: st) h = jv_ev call 125 36 [l0, l1, l2, l3, l4, l5, l6, l7, l8, l9] ((((call 120 [.ref b, v0, v1] h).getD (none, h)).1).toList ++ st) ((call 120 [.ref b, v0, v1] h).getD (none, h)).2 := by
  obtain ⟨⟨r, h'⟩, hv⟩ := Option.isSome_iff_exists.mp hc
  rw [hv]
  exact je_virt (y := 120) (as := [v0, v1]) D125_33 rfl (by decide) (by decide) rfl hcl hw hv
theorem D125_36 : decode (jt_code 125) 36 = .ok (.aload_n 0, 1) := by decide +kernel
theorem E125_36 {call : jv_F} {l1 l2 l3 l4 l5 l6 l7 l8 l9 : Option Value} {a : Nat} {st : List Value} {h : jv_H} : jv_ev call 125 36 [some (.ref a), l1, l2, l3, l4, l5, l6, l7, l8, l9] st h = jv_ev call 125 37 [some (.ref a), l1, l2, l3, l4, l5, l6, l7, l8, l9] (.ref a :: st) h := je_aload_n (r := some a) D125_36 rfl rfl
theorem D125_37 : decode (jt_code 125) 37 = .ok (.getfield 12, 3) := by decide +kernel
theorem E125_37 {call : jv_F} {l0 l1 l2 l3 l4 l5 l6 l7 l8 l9 : Option Value} {a : Nat} {st : List Value} {h : jv_H} (hs : (jv_gf h a 6 0).isSome = true) : jv_ev call 125 37 [l0, l1, l2, l3, l4, l5, l6, l7, l8, l9] (.ref a :: st) h = jv_ev call 125 40 [l0, l1, l2, l3, l4, l5, l6, l7, l8, l9] ((jv_gf h a 6 0).getD .null :: st) h := by
  obtain ⟨v, hv⟩ := Option.isSome_iff_exists.mp hs
  rw [hv]
  exact je_get D125_37 rfl (by decide) hv
theorem D125_40 : decode (jt_code 125) 40 = .ok (.lload_n 3, 1) := by decide +kernel
theorem E125_40 {call : jv_F} {l0 l1 l2 l4 l5 l6 l7 l8 l9 : Option Value} {x : Int64} {st : List Value} {h : jv_H} : jv_ev call 125 40 [l0, l1, l2, some (.long x), l4, l5, l6, l7, l8, l9] st h = jv_ev call 125 41 [l0, l1, l2, some (.long x), l4, l5, l6, l7, l8, l9] (.long x :: st) h := je_lload_n D125_40 rfl rfl
theorem D125_41 : decode (jt_code 125) 41 = .ok (.iload 9, 2) := by decide +kernel
theorem E125_41 {call : jv_F} {l0 l1 l2 l3 l4 l5 l6 l7 l8 : Option Value} {x : Int32} {st : List Value} {h : jv_H} : jv_ev call 125 41 [l0, l1, l2, l3, l4, l5, l6, l7, l8, some (.int x)] st h = jv_ev call 125 43 [l0, l1, l2, l3, l4, l5, l6, l7, l8, some (.int x)] (.int x :: st) h := je_iload D125_41 rfl rfl
theorem D125_43 : decode (jt_code 125) 43 = .ok (.bipush 8, 2) := by decide +kernel
theorem E125_43 {call : jv_F} {l0 l1 l2 l3 l4 l5 l6 l7 l8 l9 : Option Value}  {st : List Value} {h : jv_H} : jv_ev call 125 43 [l0, l1, l2, l3, l4, l5, l6, l7, l8, l9] st h = jv_ev call 125 45 [l0, l1, l2, l3, l4, l5, l6, l7, l8, l9] (.int (nI 8) :: st) h := je_bipush D125_43 rfl (by decide)
theorem D125_45 : decode (jt_code 125) 45 = .ok (.isub, 1) := by decide +kernel
theorem E125_45 {call : jv_F} {l0 l1 l2 l3 l4 l5 l6 l7 l8 l9 : Option Value} {x y : Int32} {st : List Value} {h : jv_H} : jv_ev call 125 45 [l0, l1, l2, l3, l4, l5, l6, l7, l8, l9] (.int y :: .int x :: st) h = jv_ev call 125 46 [l0, l1, l2, l3, l4, l5, l6, l7, l8, l9] (.int (x - y) :: st) h := je_b2 (f := fun x y => x - y) D125_45 rfl (fun _ => rfl)
theorem D125_46 : decode (jt_code 125) 46 = .ok (.invokevirtual 79, 3) := by decide +kernel
theorem E125_46 {call : jv_F} {l0 l1 l2 l3 l4 l5 l6 l7 l8 l9 : Option Value} {b : Nat} {v0 v1 : Value}  {st : List Value} {h : jv_H} (hw : jv_wide st = true) (hcl : jv_cl h b = some 5) (hc : (call 120 [.ref b, v0, v1] h).isSome = true) : jv_ev call 125 46 [l0, l1, l2, l3, l4, l5, l6, l7, l8, l9] (v1 :: v0 :: .ref b :: st) h = jv_ev call 125 49 [l0, l1, l2, l3, l4, l5, l6, l7, l8, l9] ((((call 120 [.ref b, v0, v1] h).getD (none, h)).1).toList ++ st) ((call 120 [.ref b, v0, v1] h).getD (none, h)).2 := by
  obtain ⟨⟨r, h'⟩, hv⟩ := Option.isSome_iff_exists.mp hc
  rw [hv]
  exact je_virt (y := 120) (as := [v0, v1]) D125_46 rfl (by decide) (by decide) rfl hcl hw hv
theorem D125_49 : decode (jt_code 125) 49 = .ok (.aload_n 0, 1) := by decide +kernel
theorem E125_49 {call : jv_F} {l1 l2 l3 l4 l5 l6 l7 l8 l9 : Option Value} {a : Nat} {st : List Value} {h : jv_H} : jv_ev call 125 49 [some (.ref a), l1, l2, l3, l4, l5, l6, l7, l8, l9] st h = jv_ev call 125 50 [some (.ref a), l1, l2, l3, l4, l5, l6, l7, l8, l9] (.ref a :: st) h := je_aload_n (r := some a) D125_49 rfl rfl
theorem D125_50 : decode (jt_code 125) 50 = .ok (.getfield 12, 3) := by decide +kernel
theorem E125_50 {call : jv_F} {l0 l1 l2 l3 l4 l5 l6 l7 l8 l9 : Option Value} {a : Nat} {st : List Value} {h : jv_H} (hs : (jv_gf h a 6 0).isSome = true) : jv_ev call 125 50 [l0, l1, l2, l3, l4, l5, l6, l7, l8, l9] (.ref a :: st) h = jv_ev call 125 53 [l0, l1, l2, l3, l4, l5, l6, l7, l8, l9] ((jv_gf h a 6 0).getD .null :: st) h := by
  obtain ⟨v, hv⟩ := Option.isSome_iff_exists.mp hs
  rw [hv]
  exact je_get D125_50 rfl (by decide) hv
theorem D125_53 : decode (jt_code 125) 53 = .ok (.lload 5, 2) := by decide +kernel
theorem E125_53 {call : jv_F} {l0 l1 l2 l3 l4 l6 l7 l8 l9 : Option Value} {x : Int64} {st : List Value} {h : jv_H} : jv_ev call 125 53 [l0, l1, l2, l3, l4, some (.long x), l6, l7, l8, l9] st h = jv_ev call 125 55 [l0, l1, l2, l3, l4, some (.long x), l6, l7, l8, l9] (.long x :: st) h := je_lload D125_53 rfl rfl
theorem D125_55 : decode (jt_code 125) 55 = .ok (.iload 9, 2) := by decide +kernel
theorem E125_55 {call : jv_F} {l0 l1 l2 l3 l4 l5 l6 l7 l8 : Option Value} {x : Int32} {st : List Value} {h : jv_H} : jv_ev call 125 55 [l0, l1, l2, l3, l4, l5, l6, l7, l8, some (.int x)] st h = jv_ev call 125 57 [l0, l1, l2, l3, l4, l5, l6, l7, l8, some (.int x)] (.int x :: st) h := je_iload D125_55 rfl rfl
theorem D125_57 : decode (jt_code 125) 57 = .ok (.bipush 16, 2) := by decide +kernel
theorem E125_57 {call : jv_F} {l0 l1 l2 l3 l4 l5 l6 l7 l8 l9 : Option Value}  {st : List Value} {h : jv_H} : jv_ev call 125 57 [l0, l1, l2, l3, l4, l5, l6, l7, l8, l9] st h = jv_ev call 125 59 [l0, l1, l2, l3, l4, l5, l6, l7, l8, l9] (.int (nI 16) :: st) h := je_bipush D125_57 rfl (by decide)
theorem D125_59 : decode (jt_code 125) 59 = .ok (.isub, 1) := by decide +kernel
theorem E125_59 {call : jv_F} {l0 l1 l2 l3 l4 l5 l6 l7 l8 l9 : Option Value} {x y : Int32} {st : List Value} {h : jv_H} : jv_ev call 125 59 [l0, l1, l2, l3, l4, l5, l6, l7, l8, l9] (.int y :: .int x :: st) h = jv_ev call 125 60 [l0, l1, l2, l3, l4, l5, l6, l7, l8, l9] (.int (x - y) :: st) h := je_b2 (f := fun x y => x - y) D125_59 rfl (fun _ => rfl)
theorem D125_60 : decode (jt_code 125) 60 = .ok (.invokevirtual 79, 3) := by decide +kernel
theorem E125_60 {call : jv_F} {l0 l1 l2 l3 l4 l5 l6 l7 l8 l9 : Option Value} {b : Nat} {v0 v1 : Value}  {st : List Value} {h : jv_H} (hw : jv_wide st = true) (hcl : jv_cl h b = some 5) (hc : (call 120 [.ref b, v0, v1] h).isSome = true) : jv_ev call 125 60 [l0, l1, l2, l3, l4, l5, l6, l7, l8, l9] (v1 :: v0 :: .ref b :: st) h = jv_ev call 125 63 [l0, l1, l2, l3, l4, l5, l6, l7, l8, l9] ((((call 120 [.ref b, v0, v1] h).getD (none, h)).1).toList ++ st) ((call 120 [.ref b, v0, v1] h).getD (none, h)).2 := by
  obtain ⟨⟨r, h'⟩, hv⟩ := Option.isSome_iff_exists.mp hc
  rw [hv]
  exact je_virt (y := 120) (as := [v0, v1]) D125_60 rfl (by decide) (by decide) rfl hcl hw hv
theorem D125_63 : decode (jt_code 125) 63 = .ok (.aload_n 0, 1) := by decide +kernel
theorem E125_63 {call : jv_F} {l1 l2 l3 l4 l5 l6 l7 l8 l9 : Option Value} {a : Nat} {st : List Value} {h : jv_H} : jv_ev call 125 63 [some (.ref a), l1, l2, l3, l4, l5, l6, l7, l8, l9] st h = jv_ev call 125 64 [some (.ref a), l1, l2, l3, l4, l5, l6, l7, l8, l9] (.ref a :: st) h := je_aload_n (r := some a) D125_63 rfl rfl
theorem D125_64 : decode (jt_code 125) 64 = .ok (.getfield 12, 3) := by decide +kernel
theorem E125_64 {call : jv_F} {l0 l1 l2 l3 l4 l5 l6 l7 l8 l9 : Option Value} {a : Nat} {st : List Value} {h : jv_H} (hs : (jv_gf h a 6 0).isSome = true) : jv_ev call 125 64 [l0, l1, l2, l3, l4, l5, l6, l7, l8, l9] (.ref a :: st) h = jv_ev call 125 67 [l0, l1, l2, l3, l4, l5, l6, l7, l8, l9] ((jv_gf h a 6 0).getD .null :: st) h := by
  obtain ⟨v, hv⟩ := Option.isSome_iff_exists.mp hs
  rw [hv]
  exact je_get D125_64 rfl (by decide) hv
theorem D125_67 : decode (jt_code 125) 67 = .ok (.lload 7, 2) := by decide +kernel
theorem E125_67 {call : jv_F} {l0 l1 l2 l3 l4 l5 l6 l8 l9 : Option Value} {x : Int64} {st : List Value} {h : jv_H} : jv_ev call 125 67 [l0, l1, l2, l3, l4, l5, l6, some (.long x), l8, l9] st h = jv_ev call 125 69 [l0, l1, l2, l3, l4, l5, l6, some (.long x), l8, l9] (.long x :: st) h := je_lload D125_67 rfl rfl
theorem D125_69 : decode (jt_code 125) 69 = .ok (.iload 9, 2) := by decide +kernel
theorem E125_69 {call : jv_F} {l0 l1 l2 l3 l4 l5 l6 l7 l8 : Option Value} {x : Int32} {st : List Value} {h : jv_H} : jv_ev call 125 69 [l0, l1, l2, l3, l4, l5, l6, l7, l8, some (.int x)] st h = jv_ev call 125 71 [l0, l1, l2, l3, l4, l5, l6, l7, l8, some (.int x)] (.int x :: st) h := je_iload D125_69 rfl rfl
theorem D125_71 : decode (jt_code 125) 71 = .ok (.bipush 24, 2) := by decide +kernel
theorem E125_71 {call : jv_F} {l0 l1 l2 l3 l4 l5 l6 l7 l8 l9 : Option Value}  {st : List Value} {h : jv_H} : jv_ev call 125 71 [l0, l1, l2, l3, l4, l5, l6, l7, l8, l9] st h = jv_ev call 125 73 [l0, l1, l2, l3, l4, l5, l6, l7, l8, l9] (.int (nI 24) :: st) h := je_bipush D125_71 rfl (by decide)
theorem D125_73 : decode (jt_code 125) 73 = .ok (.isub, 1) := by decide +kernel
theorem E125_73 {call : jv_F} {l0 l1 l2 l3 l4 l5 l6 l7 l8 l9 : Option Value} {x y : Int32} {st : List Value} {h : jv_H} : jv_ev call 125 73 [l0, l1, l2, l3, l4, l5, l6, l7, l8, l9] (.int y :: .int x :: st) h = jv_ev call 125 74 [l0, l1, l2, l3, l4, l5, l6, l7, l8, l9] (.int (x - y) :: st) h := je_b2 (f := fun x y => x - y) D125_73 rfl (fun _ => rfl)
theorem D125_74 : decode (jt_code 125) 74 = .ok (.invokevirtual 79, 3) := by decide +kernel
theorem E125_74 {call : jv_F} {l0 l1 l2 l3 l4 l5 l6 l7 l8 l9 : Option Value} {b : Nat} {v0 v1 : Value}  {st : List Value} {h : jv_H} (hw : jv_wide st = true) (hcl : jv_cl h b = some 5) (hc : (call 120 [.ref b, v0, v1] h).isSome = true) : jv_ev call 125 74 [l0, l1, l2, l3, l4, l5, l6, l7, l8, l9] (v1 :: v0 :: .ref b :: st) h = jv_ev call 125 77 [l0, l1, l2, l3, l4, l5, l6, l7, l8, l9] ((((call 120 [.ref b, v0, v1] h).getD (none, h)).1).toList ++ st) ((call 120 [.ref b, v0, v1] h).getD (none, h)).2 := by
  obtain ⟨⟨r, h'⟩, hv⟩ := Option.isSome_iff_exists.mp hc
  rw [hv]
  exact je_virt (y := 120) (as := [v0, v1]) D125_74 rfl (by decide) (by decide) rfl hcl hw hv
theorem D125_77 : decode (jt_code 125) 77 = .ok (.aload_n 0, 1) := by decide +kernel
theorem E125_77 {call : jv_F} {l1 l2 l3 l4 l5 l6 l7 l8 l9 : Option Value} {a : Nat} {st : List Value} {h : jv_H} : jv_ev call 125 77 [some (.ref a), l1, l2, l3, l4, l5, l6, l7, l8, l9] st h = jv_ev call 125 78 [some (.ref a), l1, l2, l3, l4, l5, l6, l7, l8, l9] (.ref a :: st) h := je_aload_n (r := some a) D125_77 rfl rfl
theorem D125_78 : decode (jt_code 125) 78 = .ok (.getfield 12, 3) := by decide +kernel
theorem E125_78 {call : jv_F} {l0 l1 l2 l3 l4 l5 l6 l7 l8 l9 : Option Value} {a : Nat} {st : List Value} {h : jv_H} (hs : (jv_gf h a 6 0).isSome = true) : jv_ev call 125 78 [l0, l1, l2, l3, l4, l5, l6, l7, l8, l9] (.ref a :: st) h = jv_ev call 125 81 [l0, l1, l2, l3, l4, l5, l6, l7, l8, l9] ((jv_gf h a 6 0).getD .null :: st) h := by
  obtain ⟨v, hv⟩ := Option.isSome_iff_exists.mp hs
  rw [hv]
  exact je_get D125_78 rfl (by decide) hv
theorem D125_81 : decode (jt_code 125) 81 = .ok (.getfield 83, 3) := by decide +kernel
theorem E125_81 {call : jv_F} {l0 l1 l2 l3 l4 l5 l6 l7 l8 l9 : Option Value} {a : Nat} {st : List Value} {h : jv_H} (hs : (jv_gf h a 5 3).isSome = true) : jv_ev call 125 81 [l0, l1, l2, l3, l4, l5, l6, l7, l8, l9] (.ref a :: st) h = jv_ev call 125 84 [l0, l1, l2, l3, l4, l5, l6, l7, l8, l9] ((jv_gf h a 5 3).getD .null :: st) h := by
  obtain ⟨v, hv⟩ := Option.isSome_iff_exists.mp hs
  rw [hv]
  exact je_get D125_81 rfl (by decide) hv
theorem D125_84 : decode (jt_code 125) 84 = .ok (.ireturn, 1) := by decide +kernel
theorem E125_84 {call : jv_F} {l0 l1 l2 l3 l4 l5 l6 l7 l8 l9 : Option Value} {v : Int32} {h : jv_H} : jv_ev call 125 84 [l0, l1, l2, l3, l4, l5, l6, l7, l8, l9] [.int v] h = some (some (.int v), h) := je_iret (ty := .int) D125_84 rfl rfl rfl
/-! method 126: DrumMachine.job -/
theorem N126 {d : Nat} {b : Nat} {a0 : Int32} {a1 : Int32} {h : jv_H} : jv_run (d + 1) 126 [.ref b, .int a0, .int a1] h = jv_ev (jv_run d) 126 0 [some (.ref b), some (.int a0), some (.int a1), none, none, none] [] h := jv_run_eq (Nat.le_of_ble_eq_true rfl) rfl
theorem D126_0 : decode (jt_code 126) 0 = .ok (.aload_n 0, 1) := by decide +kernel
theorem E126_0 {call : jv_F} {l1 l2 l3 l4 l5 : Option Value} {a : Nat} {st : List Value} {h : jv_H} : jv_ev call 126 0 [some (.ref a), l1, l2, l3, l4, l5] st h = jv_ev call 126 1 [some (.ref a), l1, l2, l3, l4, l5] (.ref a :: st) h := je_aload_n (r := some a) D126_0 rfl rfl
theorem D126_1 : decode (jt_code 126) 1 = .ok (.getfield 36, 3) := by decide +kernel
theorem E126_1 {call : jv_F} {l0 l1 l2 l3 l4 l5 : Option Value} {a : Nat} {st : List Value} {h : jv_H} (hs : (jv_gf h a 6 4).isSome = true) : jv_ev call 126 1 [l0, l1, l2, l3, l4, l5] (.ref a :: st) h = jv_ev call 126 4 [l0, l1, l2, l3, l4, l5] ((jv_gf h a 6 4).getD .null :: st) h := by
  obtain ⟨v, hv⟩ := Option.isSome_iff_exists.mp hs
  rw [hv]
  exact je_get D126_1 rfl (by decide) hv
theorem D126_4 : decode (jt_code 126) 4 = .ok (.bipush 12, 2) := by decide +kernel
theorem E126_4 {call : jv_F} {l0 l1 l2 l3 l4 l5 : Option Value}  {st : List Value} {h : jv_H} : jv_ev call 126 4 [l0, l1, l2, l3, l4, l5] st h = jv_ev call 126 6 [l0, l1, l2, l3, l4, l5] (.int (nI 12) :: st) h := je_bipush D126_4 rfl (by decide)
theorem D126_6 : decode (jt_code 126) 6 = .ok (.if_icmp .ge 31, 3) := by decide +kernel
theorem E126_6 {call : jv_F} {l0 l1 l2 l3 l4 l5 : Option Value} {x y : Int32} {st : List Value} {h : jv_H} : jv_ev call 126 6 [l0, l1, l2, l3, l4, l5] (.int y :: .int x :: st) h = if y ≤ x then jv_ev call 126 37 [l0, l1, l2, l3, l4, l5] st h else jv_ev call 126 9 [l0, l1, l2, l3, l4, l5] st h := je_icmp D126_6 (by decide) rfl rfl
theorem D126_9 : decode (jt_code 126) 9 = .ok (.iload_n 1, 1) := by decide +kernel
theorem E126_9 {call : jv_F} {l0 l2 l3 l4 l5 : Option Value} {x : Int32} {st : List Value} {h : jv_H} : jv_ev call 126 9 [l0, some (.int x), l2, l3, l4, l5] st h = jv_ev call 126 10 [l0, some (.int x), l2, l3, l4, l5] (.int x :: st) h := je_iload_n D126_9 rfl rfl
theorem D126_10 : decode (jt_code 126) 10 = .ok (.iconst 1, 1) := by decide +kernel
theorem E126_10 {call : jv_F} {l0 l1 l2 l3 l4 l5 : Option Value}  {st : List Value} {h : jv_H} : jv_ev call 126 10 [l0, l1, l2, l3, l4, l5] st h = jv_ev call 126 11 [l0, l1, l2, l3, l4, l5] (.int (nI 1) :: st) h := je_iconst D126_10 rfl (by decide)
theorem D126_11 : decode (jt_code 126) 11 = .ok (.if_icmp .lt 26, 3) := by decide +kernel
theorem E126_11 {call : jv_F} {l0 l1 l2 l3 l4 l5 : Option Value} {x y : Int32} {st : List Value} {h : jv_H} : jv_ev call 126 11 [l0, l1, l2, l3, l4, l5] (.int y :: .int x :: st) h = if x < y then jv_ev call 126 37 [l0, l1, l2, l3, l4, l5] st h else jv_ev call 126 14 [l0, l1, l2, l3, l4, l5] st h := je_icmp D126_11 (by decide) rfl rfl
theorem D126_14 : decode (jt_code 126) 14 = .ok (.iload_n 1, 1) := by decide +kernel
theorem E126_14 {call : jv_F} {l0 l2 l3 l4 l5 : Option Value} {x : Int32} {st : List Value} {h : jv_H} : jv_ev call 126 14 [l0, some (.int x), l2, l3, l4, l5] st h = jv_ev call 126 15 [l0, some (.int x), l2, l3, l4, l5] (.int x :: st) h := je_iload_n D126_14 rfl rfl
theorem D126_15 : decode (jt_code 126) 15 = .ok (.sipush 10000, 3) := by decide +kernel
theorem E126_15 {call : jv_F} {l0 l1 l2 l3 l4 l5 : Option Value}  {st : List Value} {h : jv_H} : jv_ev call 126 15 [l0, l1, l2, l3, l4, l5] st h = jv_ev call 126 18 [l0, l1, l2, l3, l4, l5] (.int (nI 10000) :: st) h := je_sipush D126_15 rfl (by decide)
theorem D126_18 : decode (jt_code 126) 18 = .ok (.if_icmp .gt 19, 3) := by decide +kernel
theorem E126_18 {call : jv_F} {l0 l1 l2 l3 l4 l5 : Option Value} {x y : Int32} {st : List Value} {h : jv_H} : jv_ev call 126 18 [l0, l1, l2, l3, l4, l5] (.int y :: .int x :: st) h = if y < x then jv_ev call 126 37 [l0, l1, l2, l3, l4, l5] st h else jv_ev call 126 21 [l0, l1, l2, l3, l4, l5] st h := je_icmp D126_18 (by decide) rfl rfl
theorem D126_21 : decode (jt_code 126) 21 = .ok (.iload_n 2, 1) := by decide +kernel
theorem E126_21 {call : jv_F} {l0 l1 l3 l4 l5 : Option Value} {x : Int32} {st : List Value} {h : jv_H} : jv_ev call 126 21 [l0, l1, some (.int x), l3, l4, l5] st h = jv_ev call 126 22 [l0, l1, some (.int x), l3, l4, l5] (.int x :: st) h := je_iload_n D126_21 rfl rfl
theorem D126_22 : decode (jt_code 126) 22 = .ok (.iconst 1, 1) := by decide +kernel
theorem E126_22 {call : jv_F} {l0 l1 l2 l3 l4 l5 : Option Value}  {st : List Value} {h : jv_H} : jv_ev call 126 22 [l0, l1, l2, l3, l4, l5] st h = jv_ev call 126 23 [l0, l1, l2, l3, l4, l5] (.int (nI 1) :: st) h := je_iconst D126_22 rfl (by decide)
theorem D126_23 : decode (jt_code 126) 23 = .ok (.if_icmp .lt 14, 3) := by decide +kernel
theorem E126_23 {call : jv_F} {l0 l1 l2 l3 l4 l5 : Option Value} {x y : Int32} {st : List Value} {h : jv_H} : jv_ev call 126 23 [l0, l1, l2, l3, l4, l5] (.int y :: .int x :: st) h = if x < y then jv_ev call 126 37 [l0, l1, l2, l3, l4, l5] st h else jv_ev call 126 26 [l0, l1, l2, l3, l4, l5] st h := je_icmp D126_23 (by decide) rfl rfl
theorem D126_26 : decode (jt_code 126) 26 = .ok (.iload_n 2, 1) := by decide +kernel
theorem E126_26 {call : jv_F} {l0 l1 l3 l4 l5 : Option Value} {x : Int32} {st : List Value} {h : jv_H} : jv_ev call 126 26 [l0, l1, some (.int x), l3, l4, l5] st h = jv_ev call 126 27 [l0, l1, some (.int x), l3, l4, l5] (.int x :: st) h := je_iload_n D126_26 rfl rfl
theorem D126_27 : decode (jt_code 126) 27 = .ok (.aload_n 0, 1) := by decide +kernel
theorem E126_27 {call : jv_F} {l1 l2 l3 l4 l5 : Option Value} {a : Nat} {st : List Value} {h : jv_H} : jv_ev call 126 27 [some (.ref a), l1, l2, l3, l4, l5] st h = jv_ev call 126 28 [some (.ref a), l1, l2, l3, l4, l5] (.ref a :: st) h := je_aload_n (r := some a) D126_27 rfl rfl
theorem D126_28 : decode (jt_code 126) 28 = .ok (.getfield 12, 3) := by decide +kernel
theorem E126_28 {call : jv_F} {l0 l1 l2 l3 l4 l5 : Option Value} {a : Nat} {st : List Value} {h : jv_H} (hs : (jv_gf h a 6 0).isSome = true) : jv_ev call 126 28 [l0, l1, l2, l3, l4, l5] (.ref a :: st) h = jv_ev call 126 31 [l0, l1, l2, l3, l4, l5] ((jv_gf h a 6 0).getD .null :: st) h := by
  obtain ⟨v, hv⟩ := Option.isSome_iff_exists.mp hs
  rw [hv]
  exact je_get D126_28 rfl (by decide) hv
theorem D126_31 : decode (jt_code 126) 31 = .ok (.getfield 73, 3) := by decide +kernel
theorem E126_31 {call : jv_F} {l0 l1 l2 l3 l4 l5 : Option Value} {a : Nat} {st : List Value} {h : jv_H} (hs : (jv_gf h a 5 2).isSome = true) : jv_ev call 126 31 [l0, l1, l2, l3, l4, l5] (.ref a :: st) h = jv_ev call 126 34 [l0, l1, l2, l3, l4, l5] ((jv_gf h a 5 2).getD .null :: st) h := by
  obtain ⟨v, hv⟩ := Option.isSome_iff_exists.mp hs
  rw [hv]
  exact je_get D126_31 rfl (by decide) hv
theorem D126_34 : decode (jt_code 126) 34 = .ok (.if_icmp .le 5, 3) := by decide +kernel
theorem E126_34 {call : jv_F} {l0 l1 l2 l3 l4 l5 : Option Value} {x y : Int32} {st : List Value} {h : jv_H} : jv_ev call 126 34 [l0, l1, l2, l3, l4, l5] (.int y :: .int x :: st) h = if x ≤ y then jv_ev call 126 39 [l0, l1, l2, l3, l4, l5] st h else jv_ev call 126 37 [l0, l1, l2, l3, l4, l5] st h := je_icmp D126_34 (by decide) rfl rfl
theorem D126_37 : decode (jt_code 126) 37 = .ok (.iconst (-1), 1) := by decide +kernel
theorem E126_37 {call : jv_F} {l0 l1 l2 l3 l4 l5 : Option Value}  {st : List Value} {h : jv_H} : jv_ev call 126 37 [l0, l1, l2, l3, l4, l5] st h = jv_ev call 126 38 [l0, l1, l2, l3, l4, l5] (.int (-1) :: st) h := je_iconst D126_37 rfl (by decide)
theorem D126_38 : decode (jt_code 126) 38 = .ok (.ireturn, 1) := by decide +kernel
theorem E126_38 {call : jv_F} {l0 l1 l2 l3 l4 l5 : Option Value} {v : Int32} {h : jv_H} : jv_ev call 126 38 [l0, l1, l2, l3, l4, l5] [.int v] h = some (some (.int v), h) := je_iret (ty := .int) D126_38 rfl rfl rfl
theorem D126_39 : decode (jt_code 126) 39 = .ok (.iload_n 2, 1) := by decide +kernel
theorem E126_39 {call : jv_F} {l0 l1 l3 l4 l5 : Option Value} {x : Int32} {st : List Value} {h : jv_H} : jv_ev call 126 39 [l0, l1, some (.int x), l3, l4, l5] st h = jv_ev call 126 40 [l0, l1, some (.int x), l3, l4, l5] (.int x :: st) h := je_iload_n D126_39 rfl rfl
theorem D126_40 : decode (jt_code 126) 40 = .ok (.bipush 16, 2) := by decide +kernel
theorem E126_40 {call : jv_F} {l0 l1 l2 l3 l4 l5 : Option Value}  {st : List Value} {h : jv_H} : jv_ev call 126 40 [l0, l1, l2, l3, l4, l5] st h = jv_ev call 126 42 [l0, l1, l2, l3, l4, l5] (.int (nI 16) :: st) h := je_bipush D126_40 rfl (by decide)
theorem D126_42 : decode (jt_code 126) 42 = .ok (.iadd, 1) := by decide +kernel
theorem E126_42 {call : jv_F} {l0 l1 l2 l3 l4 l5 : Option Value} {x y : Int32} {st : List Value} {h : jv_H} : jv_ev call 126 42 [l0, l1, l2, l3, l4, l5] (.int y :: .int x :: st) h = jv_ev call 126 43 [l0, l1, l2, l3, l4, l5] (.int (x + y) :: st) h := je_b2 (f := fun x y => x + y) D126_42 rfl (fun _ => rfl)
theorem D126_43 : decode (jt_code 126) 43 = .ok (.iconst 1, 1) := by decide +kernel
theorem E126_43 {call : jv_F} {l0 l1 l2 l3 l4 l5 : Option Value}  {st : List Value} {h : jv_H} : jv_ev call 126 43 [l0, l1, l2, l3, l4, l5] st h = jv_ev call 126 44 [l0, l1, l2, l3, l4, l5] (.int (nI 1) :: st) h := je_iconst D126_43 rfl (by decide)
theorem D126_44 : decode (jt_code 126) 44 = .ok (.isub, 1) := by decide +kernel
theorem E126_44 {call : jv_F} {l0 l1 l2 l3 l4 l5 : Option Value} {x y : Int32} {st : List Value} {h : jv_H} : jv_ev call 126 44 [l0, l1, l2, l3, l4, l5] (.int y :: .int x :: st) h = jv_ev call 126 45 [l0, l1, l2, l3, l4, l5] (.int (x - y) :: st) h := je_b2 (f := fun x y => x - y) D126_44 rfl (fun _ => rfl)
theorem D126_45 : decode (jt_code 126) 45 = .ok (.bipush 16, 2) := by decide +kernel
theorem E126_45 {call : jv_F} {l0 l1 l2 l3 l4 l5 : Option Value}  {st : List Value} {h : jv_H} : jv_ev call 126 45 [l0, l1, l2, l3, l4, l5] st h = jv_ev call 126 47 [l0, l1, l2, l3, l4, l5] (.int (nI 16) :: st) h := je_bipush D126_45 rfl (by decide)
theorem D126_47 : decode (jt_code 126) 47 = .ok (.idiv, 1) := by decide +kernel
theorem E126_47 {call : jv_F} {l0 l1 l2 l3 l4 l5 : Option Value} {x y : Int32} {st : List Value} {h : jv_H} (hy : ¬ y = 0) : jv_ev call 126 47 [l0, l1, l2, l3, l4, l5] (.int y :: .int x :: st) h = jv_ev call 126 48 [l0, l1, l2, l3, l4, l5] (.int (x / y) :: st) h := je_idiv D126_47 rfl hy
theorem D126_48 : decode (jt_code 126) 48 = .ok (.istore_n 3, 1) := by decide +kernel
theorem E126_48 {call : jv_F} {l0 l1 l2 l3 l4 l5 : Option Value} {x : Int32} {st : List Value} {h : jv_H} (hk : ¬ jv_is2 (some l2) = true) : jv_ev call 126 48 [l0, l1, l2, l3, l4, l5] (.int x :: st) h = jv_ev call 126 49 [l0, l1, l2, some (.int x), l4, l5] st h := je_istore_n D126_48 rfl (Nat.le_of_ble_eq_true rfl) (by show jv_st1 _ 3 _ = _; simp only [jv_st1, jv_kill, List.getElem?_cons_succ, List.getElem?_cons_zero, hk, if_false]; rfl)
theorem D126_49 : decode (jt_code 126) 49 = .ok (.aload_n 0, 1) := by decide +kernel
theorem E126_49 {call : jv_F} {l1 l2 l3 l4 l5 : Option Value} {a : Nat} {st : List Value} {h : jv_H} : jv_ev call 126 49 [some (.ref a), l1, l2, l3, l4, l5] st h = jv_ev call 126 50 [some (.ref a), l1, l2, l3, l4, l5] (.ref a :: st) h := je_aload_n (r := some a) D126_49 rfl rfl
theorem D126_50 : decode (jt_code 126) 50 = .ok (.getfield 43, 3) := by decide +kernel
theorem E126_50 {call : jv_F} {l0 l1 l2 l3 l4 l5 : Option Value} {a : Nat} {st : List Value} {h : jv_H} (hs : (jv_gf h a 6 6).isSome = true) : jv_ev call 126 50 [l0, l1, l2, l3, l4, l5] (.ref a :: st) h = jv_ev call 126 53 [l0, l1, l2, l3, l4, l5] ((jv_gf h a 6 6).getD .null :: st) h := by
  obtain ⟨v, hv⟩ := Option.isSome_iff_exists.mp hs
  rw [hv]
  exact je_get D126_50 rfl (by decide) hv
theorem D126_53 : decode (jt_code 126) 53 = .ok (.iload_n 3, 1) := by decide +kernel
theorem E126_53 {call : jv_F} {l0 l1 l2 l4 l5 : Option Value} {x : Int32} {st : List Value} {h : jv_H} : jv_ev call 126 53 [l0, l1, l2, some (.int x), l4, l5] st h = jv_ev call 126 54 [l0, l1, l2, some (.int x), l4, l5] (.int x :: st) h := je_iload_n D126_53 rfl rfl
theorem D126_54 : decode (jt_code 126) 54 = .ok (.iadd, 1) := by decide +kernel
theorem E126_54 {call : jv_F} {l0 l1 l2 l3 l4 l5 : Option Value} {x y : Int32} {st : List Value} {h : jv_H} : jv_ev call 126 54 [l0, l1, l2, l3, l4, l5] (.int y :: .int x :: st) h = jv_ev call 126 55 [l0, l1, l2, l3, l4, l5] (.int (x + y) :: st) h := je_b2 (f := fun x y => x + y) D126_54 rfl (fun _ => rfl)
theorem D126_55 : decode (jt_code 126) 55 = .ok (.bipush 64, 2) := by decide +kernel
theorem E126_55 {call : jv_F} {l0 l1 l2 l3 l4 l5 : Option Value}  {st : List Value} {h : jv_H} : jv_ev call 126 55 [l0, l1, l2, l3, l4, l5] st h = jv_ev call 126 57 [l0, l1, l2, l3, l4, l5] (.int (nI 64) :: st) h := je_bipush D126_55 rfl (by decide)
theorem D126_57 : decode (jt_code 126) 57 = .ok (.if_icmp .le 5, 3) := by decide +kernel
theorem E126_57 {call : jv_F} {l0 l1 l2 l3 l4 l5 : Option Value} {x y : Int32} {st : List Value} {h : jv_H} : jv_ev call 126 57 [l0, l1, l2, l3, l4, l5] (.int y :: .int x :: st) h = if x ≤ y then jv_ev call 126 62 [l0, l1, l2, l3, l4, l5] st h else jv_ev call 126 60 [l0, l1, l2, l3, l4, l5] st h := je_icmp D126_57 (by decide) rfl rfl
theorem D126_60 : decode (jt_code 126) 60 = .ok (.iconst (-1), 1) := by decide +kernel
theorem E126_60 {call : jv_F} {l0 l1 l2 l3 l4 l5 : Option Value}  {st : List Value} {h : jv_H} : jv_ev call 126 60 [l0, l1, l2, l3, l4, l5] st h = jv_ev call 126 61 [l0, l1, l2, l3, l4, l5] (.int (-1) :: st) h := je_iconst D126_60 rfl (by decide)
theorem D126_61 : decode (jt_code 126) 61 = .ok (.ireturn, 1) := by decide +kernel
theorem E126_61 {call : jv_F} {l0 l1 l2 l3 l4 l5 : Option Value} {v : Int32} {h : jv_H} : jv_ev call 126 61 [l0, l1, l2, l3, l4, l5] [.int v] h = some (some (.int v), h) := je_iret (ty := .int) D126_61 rfl rfl rfl
theorem D126_62 : decode (jt_code 126) 62 = .ok (.new 30, 3) := by decide +kernel
theorem E126_62 {call : jv_F} {l0 l1 l2 l3 l4 l5 : Option Value}  {st : List Value} {h : jv_H} : jv_ev call 126 62 [l0, l1, l2, l3, l4, l5] st h = jv_ev call 126 65 [l0, l1, l2, l3, l4, l5] (.ref h.2.1 :: st) (jv_new h 4) := je_new D126_62 rfl (by decide) (by decide)
theorem D126_65 : decode (jt_code 126) 65 = .ok (.dup, 1) := by decide +kernel
theorem E126_65 {call : jv_F} {l0 l1 l2 l3 l4 l5 : Option Value} {a : Nat} {st : List Value} {h : jv_H} : jv_ev call 126 65 [l0, l1, l2, l3, l4, l5] (.ref a :: st) h = jv_ev call 126 66 [l0, l1, l2, l3, l4, l5] (.ref a :: .ref a :: st) h := je_dup D126_65 rfl rfl
theorem E126_65i {call : jv_F} {l0 l1 l2 l3 l4 l5 : Option Value} {x : Int32} {st : List Value} {h : jv_H} : jv_ev call 126 65 [l0, l1, l2, l3, l4, l5] (.int x :: st) h = jv_ev call 126 66 [l0, l1, l2, l3, l4, l5] (.int x :: .int x :: st) h := je_dup D126_65 rfl rfl
theorem D126_66 : decode (jt_code 126) 66 = .ok (.aload_n 0, 1) := by decide +kernel
theorem E126_66 {call : jv_F} {l1 l2 l3 l4 l5 : Option Value} {a : Nat} {st : List Value} {h : jv_H} : jv_ev call 126 66 [some (.ref a), l1, l2, l3, l4, l5] st h = jv_ev call 126 67 [some (.ref a), l1, l2, l3, l4, l5] (.ref a :: st) h := je_aload_n (r := some a) D126_66 rfl rfl
theorem D126_67 : decode (jt_code 126) 67 = .ok (.getfield 36, 3) := by decide +kernel
theorem E126_67 {call : jv_F} {l0 l1 l2 l3 l4 l5 : Option Value} {a : Nat} {st : List Value} {h : jv_H} (hs : (jv_gf h a 6 4).isSome = true) : jv_ev call 126 67 [l0, l1, l2, l3, l4, l5] (.ref a :: st) h = jv_ev call 126 70 [l0, l1, l2, l3, l4, l5] ((jv_gf h a 6 4).getD .null :: st) h := by
  obtain ⟨v, hv⟩ := Option.isSome_iff_exists.mp hs
  rw [hv]
  exact je_get D126_67 rfl (by decide) hv
theorem D126_70 : decode (jt_code 126) 70 = .ok (.iload_n 1, 1) := by decide +kernel
theorem E126_70 {call : jv_F} {l0 l2 l3 l4 l5 : Option Value} {x : Int32} {st : List Value} {h : jv_H} : jv_ev call 126 70 [l0, some (.int x), l2, l3, l4, l5] st h = jv_ev call 126 71 [l0, some (.int x), l2, l3, l4, l5] (.int x :: st) h := je_iload_n D126_70 rfl rfl
theorem D126_71 : decode (jt_code 126) 71 = .ok (.aload_n 0, 1) := by decide +kernel
theorem E126_71 {call : jv_F} {l1 l2 l3 l4 l5 : Option Value} {a : Nat} {st : List Value} {h : jv_H} : jv_ev call 126 71 [some (.ref a), l1, l2, l3, l4, l5] st h = jv_ev call 126 72 [some (.ref a), l1, l2, l3, l4, l5] (.ref a :: st) h := je_aload_n (r := some a) D126_71 rfl rfl
theorem D126_72 : decode (jt_code 126) 72 = .ok (.getfield 12, 3) := by decide +kernel
theorem E126_72 {call : jv_F} {l0 l1 l2 l3 l4 l5 : Option Value} {a : Nat} {st : List Value} {h : jv_H} (hs : (jv_gf h a 6 0).isSome = true) : jv_ev call 126 72 [l0, l1, l2, l3, l4, l5] (.ref a :: st) h = jv_ev call 126 75 [l0, l1, l2, l3, l4, l5] ((jv_gf h a 6 0).getD .null :: st) h := by
  obtain ⟨v, hv⟩ := Option.isSome_iff_exists.mp hs
  rw [hv]
  exact je_get D126_72 rfl (by decide) hv
theorem D126_75 : decode (jt_code 126) 75 = .ok (.iload_n 2, 1) := by decide +kernel
theorem E126_75 {call : jv_F} {l0 l1 l3 l4 l5 : Option Value} {x : Int32} {st : List Value} {h : jv_H} : jv_ev call 126 75 [l0, l1, some (.int x), l3, l4, l5] st h = jv_ev call 126 76 [l0, l1, some (.int x), l3, l4, l5] (.int x :: st) h := je_iload_n D126_75 rfl rfl
theorem D126_76 : decode (jt_code 126) 76 = .ok (.invokespecial 86, 3) := by decide +kernel
theorem E126_76 {call : jv_F} {l0 l1 l2 l3 l4 l5 : Option Value} {b : Nat} {v0 v1 v2 v3 : Value}  {st : List Value} {h : jv_H} (hw : jv_wide st = true) (hc : (call 88 [.ref b, v0, v1, v2, v3] h).isSome = true) : jv_ev call 126 76 [l0, l1, l2, l3, l4, l5] (v3 :: v2 :: v1 :: v0 :: .ref b :: st) h = jv_ev call 126 79 [l0, l1, l2, l3, l4, l5] ((((call 88 [.ref b, v0, v1, v2, v3] h).getD (none, h)).1).toList ++ st) ((call 88 [.ref b, v0, v1, v2, v3] h).getD (none, h)).2 := by
  obtain ⟨⟨r, h'⟩, hv⟩ := Option.isSome_iff_exists.mp hc
  rw [hv]
  exact je_spec (y := 88) (as := [v0, v1, v2, v3]) D126_76 rfl (by decide) (by decide) (by decide) rfl hw hv
theorem D126_79 : decode (jt_code 126) 79 = .ok (.astore 4, 2) := by decide +kernel
theorem E126_79 {call : jv_F} {l0 l1 l2 l3 l4 l5 : Option Value} {a : Nat} {st : List Value} {h : jv_H} (hk : ¬ jv_is2 (some l3) = true) : jv_ev call 126 79 [l0, l1, l2, l3, l4, l5] (.ref a :: st) h = jv_ev call 126 81 [l0, l1, l2, l3, some (.ref a), l5] st h := je_astore (r := some a) D126_79 rfl (Nat.le_of_ble_eq_true rfl) (by show jv_st1 _ 4 _ = _; simp only [jv_st1, jv_kill, List.getElem?_cons_succ, List.getElem?_cons_zero, hk, if_false]; rfl)
theorem E126_79r {call : jv_F} {l0 l1 l2 l3 l4 l5 : Option Value} {r : Option Nat} {st : List Value} {h : jv_H} (hk : ¬ jv_is2 (some l3) = true) : jv_ev call 126 79 [l0, l1, l2, l3, l4, l5] (va_rf r :: st) h = jv_ev call 126 81 [l0, l1, l2, l3, some (va_rf r), l5] st h := je_astore (r := r) D126_79 rfl (Nat.le_of_ble_eq_true rfl) (by show jv_st1 _ 4 _ = _; simp only [jv_st1, jv_kill, List.getElem?_cons_succ, List.getElem?_cons_zero, hk, if_false]; rfl)
theorem D126_81 : decode (jt_code 126) 81 = .ok (.aload_n 0, 1) := by decide +kernel
theorem E126_81 {call : jv_F} {l1 l2 l3 l4 l5 : Option Value} {a : Nat} {st : List Value} {h : jv_H} : jv_ev call 126 81 [some (.ref a), l1, l2, l3, l4, l5] st h = jv_ev call 126 82 [some (.ref a), l1, l2, l3, l4, l5] (.ref a :: st) h := je_aload_n (r := some a) D126_81 rfl rfl
theorem D126_82 : decode (jt_code 126) 82 = .ok (.getfield 12, 3) := by decide +kernel
theorem E126_82 {call : jv_F} {l0 l1 l2 l3 l4 l5 : Option Value} {a : Nat} {st : List Value} {h : jv_H} (hs : (jv_gf h a 6 0).isSome = true) : jv_ev call 126 82 [l0, l1, l2, l3, l4, l5] (.ref a :: st) h = jv_ev call 126 85 [l0, l1, l2, l3, l4, l5] ((jv_gf h a 6 0).getD .null :: st) h := by
  obtain ⟨v, hv⟩ := Option.isSome_iff_exists.mp hs
  rw [hv]
  exact je_get D126_82 rfl (by decide) hv
theorem D126_85 : decode (jt_code 126) 85 = .ok (.invokevirtual 89, 3) := by decide +kernel
theorem E126_85 {call : jv_F} {l0 l1 l2 l3 l4 l5 : Option Value} {b : Nat}  {st : List Value} {h : jv_H} (hw : jv_wide st = true) (hcl : jv_cl h b = some 5) (hc : (call 121 [.ref b] h).isSome = true) : jv_ev call 126 85 [l0, l1, l2, l3, l4, l5] (.ref b :: st) h = jv_ev call 126 88 [l0, l1, l2, l3, l4, l5] ((((call 121 [.ref b] h).getD (none, h)).1).toList ++ st) ((call 121 [.ref b] h).getD (none, h)).2 := by
  obtain ⟨⟨r, h'⟩, hv⟩ := Option.isSome_iff_exists.mp hc
  rw [hv]
  exact je_virt (y := 121) (as := []) D126_85 rfl (by decide) (by decide) rfl hcl hw hv
theorem D126_88 : decode (jt_code 126) 88 = .ok (.iconst 0, 1) := by decide +kernel
theorem E126_88 {call : jv_F} {l0 l1 l2 l3 l4 l5 : Option Value}  {st : List Value} {h : jv_H} : jv_ev call 126 88 [l0, l1, l2, l3, l4, l5] st h = jv_ev call 126 89 [l0, l1, l2, l3, l4, l5] (.int (nI 0) :: st) h := je_iconst D126_88 rfl (by decide)
theorem D126_89 : decode (jt_code 126) 89 = .ok (.istore 5, 2) := by decide +kernel
theorem E126_89 {call : jv_F} {l0 l1 l2 l3 l4 l5 : Option Value} {x : Int32} {st : List Value} {h : jv_H} (hk : ¬ jv_is2 (some l4) = true) : jv_ev call 126 89 [l0, l1, l2, l3, l4, l5] (.int x :: st) h = jv_ev call 126 91 [l0, l1, l2, l3, l4, some (.int x)] st h := je_istore D126_89 rfl (Nat.le_of_ble_eq_true rfl) (by show jv_st1 _ 5 _ = _; simp only [jv_st1, jv_kill, List.getElem?_cons_succ, List.getElem?_cons_zero, hk, if_false]; rfl)
theorem D126_91 : decode (jt_code 126) 91 = .ok (.iload 5, 2) := by decide +kernel
theorem E126_91 {call : jv_F} {l0 l1 l2 l3 l4 : Option Value} {x : Int32} {st : List Value} {h : jv_H} : jv_ev call 126 91 [l0, l1, l2, l3, l4, some (.int x)] st h = jv_ev call 126 93 [l0, l1, l2, l3, l4, some (.int x)] (.int x :: st) h := je_iload D126_91 rfl rfl
theorem D126_93 : decode (jt_code 126) 93 = .ok (.iload_n 3, 1) := by decide +kernel
theorem E126_93 {call : jv_F} {l0 l1 l2 l4 l5 : Option Value} {x : Int32} {st : List Value} {h : jv_H} : jv_ev call 126 93 [l0, l1, l2, some (.int x), l4, l5] st h = jv_ev call 126 94 [l0, l1, l2, some (.int x), l4, l5] (.int x :: st) h := je_iload_n D126_93 rfl rfl
theorem D126_94 : decode (jt_code 126) 94 = .ok (.if_icmp .ge 24, 3) := by decide +kernel
theorem E126_94 {call : jv_F} {l0 l1 l2 l3 l4 l5 : Option Value} {x y : Int32} {st : List Value} {h : jv_H} : jv_ev call 126 94 [l0, l1, l2, l3, l4, l5] (.int y :: .int x :: st) h = if y ≤ x then jv_ev call 126 118 [l0, l1, l2, l3, l4, l5] st h else jv_ev call 126 97 [l0, l1, l2, l3, l4, l5] st h := je_icmp D126_94 (by decide) rfl rfl
theorem D126_97 : decode (jt_code 126) 97 = .ok (.aload_n 0, 1) := by decide +kernel
theorem E126_97 {call : jv_F} {l1 l2 l3 l4 l5 : Option Value} {a : Nat} {st : List Value} {h : jv_H} : jv_ev call 126 97 [some (.ref a), l1, l2, l3, l4, l5] st h = jv_ev call 126 98 [some (.ref a), l1, l2, l3, l4, l5] (.ref a :: st) h := je_aload_n (r := some a) D126_97 rfl rfl
theorem D126_98 : decode (jt_code 126) 98 = .ok (.getfield 26, 3) := by decide +kernel
theorem E126_98 {call : jv_F} {l0 l1 l2 l3 l4 l5 : Option Value} {a : Nat} {st : List Value} {h : jv_H} (hs : (jv_gf h a 6 2).isSome = true) : jv_ev call 126 98 [l0, l1, l2, l3, l4, l5] (.ref a :: st) h = jv_ev call 126 101 [l0, l1, l2, l3, l4, l5] ((jv_gf h a 6 2).getD .null :: st) h := by
  obtain ⟨v, hv⟩ := Option.isSome_iff_exists.mp hs
  rw [hv]
  exact je_get D126_98 rfl (by decide) hv
theorem D126_101 : decode (jt_code 126) 101 = .ok (.aload_n 0, 1) := by decide +kernel
theorem E126_101 {call : jv_F} {l1 l2 l3 l4 l5 : Option Value} {a : Nat} {st : List Value} {h : jv_H} : jv_ev call 126 101 [some (.ref a), l1, l2, l3, l4, l5] st h = jv_ev call 126 102 [some (.ref a), l1, l2, l3, l4, l5] (.ref a :: st) h := je_aload_n (r := some a) D126_101 rfl rfl
theorem D126_102 : decode (jt_code 126) 102 = .ok (.aload 4, 2) := by decide +kernel
theorem E126_102 {call : jv_F} {l0 l1 l2 l3 l5 : Option Value} {a : Nat} {st : List Value} {h : jv_H} : jv_ev call 126 102 [l0, l1, l2, l3, some (.ref a), l5] st h = jv_ev call 126 104 [l0, l1, l2, l3, some (.ref a), l5] (.ref a :: st) h := je_aload (r := some a) D126_102 rfl rfl
theorem E126_102r {call : jv_F} {l0 l1 l2 l3 l5 : Option Value} {r : Option Nat} {st : List Value} {h : jv_H} : jv_ev call 126 102 [l0, l1, l2, l3, some (va_rf r), l5] st h = jv_ev call 126 104 [l0, l1, l2, l3, some (va_rf r), l5] (va_rf r :: st) h := je_aload (r := r) D126_102 rfl rfl
theorem D126_104 : decode (jt_code 126) 104 = .ok (.iload 5, 2) := by decide +kernel
theorem E126_104 {call : jv_F} {l0 l1 l2 l3 l4 : Option Value} {x : Int32} {st : List Value} {h : jv_H} : jv_ev call 126 104 [l0, l1, l2, l3, l4, some (.int x)] st h = jv_ev call 126 106 [l0, l1, l2, l3, l4, some (.int x)] (.int x :: st) h := je_iload D126_104 rfl rfl
theorem D126_106 : decode (jt_code 126) 106 = .ok (.invokevirtual 92, 3) := by decide +kernel
theorem E126_106 {call : jv_F} {l0 l1 l2 l3 l4 l5 : Option Value} {b : Nat} {v0 v1 : Value}  {st : List Value} {h : jv_H} (hw : jv_wide st = true) (hcl : jv_cl h b = some 6) (hc : (call 150 [.ref b, v0, v1] h).isSome = true) : jv_ev call 126 106 [l0, l1, l2, l3, l4, l5] (v1 :: v0 :: .ref b :: st) h = jv_ev call 126 109 [l0, l1, l2, l3, l4, l5] ((((call 150 [.ref b, v0, v1] h).getD (none, h)).1).toList ++ st) ((call 150 [.ref b, v0, v1] h).getD (none, h)).2 := by
  obtain ⟨⟨r, h'⟩, hv⟩ := Option.isSome_iff_exists.mp hc
  rw [hv]
  exact je_virt (y := 150) (as := [v0, v1]) D126_106 rfl (by decide) (by decide) rfl hcl hw hv
theorem D126_109 : decode (jt_code 126) 109 = .ok (.invokevirtual 96, 3) := by decide +kernel
theorem E126_109 {call : jv_F} {l0 l1 l2 l3 l4 l5 : Option Value} {b : Nat} {v0 : Value}  {st : List Value} {h : jv_H} (hw : jv_wide st = true) (hcl : jv_cl h b = some 3) (hc : (call 78 [.ref b, v0] h).isSome = true) : jv_ev call 126 109 [l0, l1, l2, l3, l4, l5] (v0 :: .ref b :: st) h = jv_ev call 126 112 [l0, l1, l2, l3, l4, l5] ((((call 78 [.ref b, v0] h).getD (none, h)).1).toList ++ st) ((call 78 [.ref b, v0] h).getD (none, h)).2 := by
  obtain ⟨⟨r, h'⟩, hv⟩ := Option.isSome_iff_exists.mp hc
  rw [hv]
  exact je_virt (y := 78) (as := [v0]) D126_109 rfl (by decide) (by decide) rfl hcl hw hv
theorem D126_112 : decode (jt_code 126) 112 = .ok (.iinc 5 1, 3) := by decide +kernel
theorem E126_112 {call : jv_F} {l0 l1 l2 l3 l4 : Option Value} {x : Int32} {st : List Value} {h : jv_H} (hk : ¬ jv_is2 (some l4) = true) : jv_ev call 126 112 [l0, l1, l2, l3, l4, some (.int x)] st h = jv_ev call 126 115 [l0, l1, l2, l3, l4, some (.int (x + (nI 1)))] st h := je_iinc D126_112 rfl rfl (v := x + (nI 1)) (by rfl) (by show jv_st1 _ 5 _ = _; simp only [jv_st1, jv_kill, List.getElem?_cons_succ, List.getElem?_cons_zero, hk, if_false]; rfl)
theorem D126_115 : decode (jt_code 126) 115 = .ok (.goto (-24), 3) := by decide +kernel
theorem E126_115 {call : jv_F} {l0 l1 l2 l3 l4 l5 : Option Value}  {st : List Value} {h : jv_H} : jv_ev call 126 115 [l0, l1, l2, l3, l4, l5] st h = jv_ev call 126 91 [l0, l1, l2, l3, l4, l5] st h := je_goto D126_115 (by decide)
theorem D126_118 : decode (jt_code 126) 118 = .ok (.aload_n 0, 1) := by decide +kernel
theorem E126_118 {call : jv_F} {l1 l2 l3 l4 l5 : Option Value} {a : Nat} {st : List Value} {h : jv_H} : jv_ev call 126 118 [some (.ref a), l1, l2, l3, l4, l5] st h = jv_ev call 126 119 [some (.ref a), l1, l2, l3, l4, l5] (.ref a :: st) h := je_aload_n (r := some a) D126_118 rfl rfl
theorem D126_119 : decode (jt_code 126) 119 = .ok (.getfield 32, 3) := by decide +kernel
theorem E126_119 {call : jv_F} {l0 l1 l2 l3 l4 l5 : Option Value} {a : Nat} {st : List Value} {h : jv_H} (hs : (jv_gf h a 6 3).isSome = true) : jv_ev call 126 119 [l0, l1, l2, l3, l4, l5] (.ref a :: st) h = jv_ev call 126 122 [l0, l1, l2, l3, l4, l5] ((jv_gf h a 6 3).getD .null :: st) h := by
  obtain ⟨v, hv⟩ := Option.isSome_iff_exists.mp hs
  rw [hv]
  exact je_get D126_119 rfl (by decide) hv
theorem D126_122 : decode (jt_code 126) 122 = .ok (.aload_n 0, 1) := by decide +kernel
theorem E126_122 {call : jv_F} {l1 l2 l3 l4 l5 : Option Value} {a : Nat} {st : List Value} {h : jv_H} : jv_ev call 126 122 [some (.ref a), l1, l2, l3, l4, l5] st h = jv_ev call 126 123 [some (.ref a), l1, l2, l3, l4, l5] (.ref a :: st) h := je_aload_n (r := some a) D126_122 rfl rfl
theorem D126_123 : decode (jt_code 126) 123 = .ok (.getfield 36, 3) := by decide +kernel
theorem E126_123 {call : jv_F} {l0 l1 l2 l3 l4 l5 : Option Value} {a : Nat} {st : List Value} {h : jv_H} (hs : (jv_gf h a 6 4).isSome = true) : jv_ev call 126 123 [l0, l1, l2, l3, l4, l5] (.ref a :: st) h = jv_ev call 126 126 [l0, l1, l2, l3, l4, l5] ((jv_gf h a 6 4).getD .null :: st) h := by
  obtain ⟨v, hv⟩ := Option.isSome_iff_exists.mp hs
  rw [hv]
  exact je_get D126_123 rfl (by decide) hv
theorem D126_126 : decode (jt_code 126) 126 = .ok (.aload 4, 2) := by decide +kernel
theorem E126_126 {call : jv_F} {l0 l1 l2 l3 l5 : Option Value} {a : Nat} {st : List Value} {h : jv_H} : jv_ev call 126 126 [l0, l1, l2, l3, some (.ref a), l5] st h = jv_ev call 126 128 [l0, l1, l2, l3, some (.ref a), l5] (.ref a :: st) h := je_aload (r := some a) D126_126 rfl rfl
theorem E126_126r {call : jv_F} {l0 l1 l2 l3 l5 : Option Value} {r : Option Nat} {st : List Value} {h : jv_H} : jv_ev call 126 126 [l0, l1, l2, l3, some (va_rf r), l5] st h = jv_ev call 126 128 [l0, l1, l2, l3, some (va_rf r), l5] (va_rf r :: st) h := je_aload (r := r) D126_126 rfl rfl
theorem D126_128 : decode (jt_code 126) 128 = .ok (.aastore, 1) := by decide +kernel
theorem E126_128 {call : jv_F} {l0 l1 l2 l3 l4 l5 : Option Value} {a : Nat} {j : Int32} {C : String} {v : Value} {st : List Value} {h : jv_H} (hC : jv_kn h a = some C) (hA : jv_isA h C v = true) (hs : (jv_as h a (.object C) j v).isSome = true) : jv_ev call 126 128 [l0, l1, l2, l3, l4, l5] (v :: .int j :: .ref a :: st) h = jv_ev call 126 129 [l0, l1, l2, l3, l4, l5] st ((jv_as h a (.object C) j v).getD h) := by
  obtain ⟨h', hv⟩ := Option.isSome_iff_exists.mp hs
  rw [hv]
  exact je_aast D126_128 rfl hC hA hv
theorem D126_129 : decode (jt_code 126) 129 = .ok (.aload_n 0, 1) := by decide +kernel
theorem E126_129 {call : jv_F} {l1 l2 l3 l4 l5 : Option Value} {a : Nat} {st : List Value} {h : jv_H} : jv_ev call 126 129 [some (.ref a), l1, l2, l3, l4, l5] st h = jv_ev call 126 130 [some (.ref a), l1, l2, l3, l4, l5] (.ref a :: st) h := je_aload_n (r := some a) D126_129 rfl rfl
theorem D126_130 : decode (jt_code 126) 130 = .ok (.dup, 1) := by decide +kernel
theorem E126_130 {call : jv_F} {l0 l1 l2 l3 l4 l5 : Option Value} {a : Nat} {st : List Value} {h : jv_H} : jv_ev call 126 130 [l0, l1, l2, l3, l4, l5] (.ref a :: st) h = jv_ev call 126 131 [l0, l1, l2, l3, l4, l5] (.ref a :: .ref a :: st) h := je_dup D126_130 rfl rfl
theorem E126_130i {call : jv_F} {l0 l1 l2 l3 l4 l5 : Option Value} {x : Int32} {st : List Value} {h : jv_H} : jv_ev call 126 130 [l0, l1, l2, l3, l4, l5] (.int x :: st) h = jv_ev call 126 131 [l0, l1, l2, l3, l4, l5] (.int x :: .int x :: st) h := je_dup D126_130 rfl rfl
theorem D126_131 : decode (jt_code 126) 131 = .ok (.getfield 36, 3) := by decide +kernel
theorem E126_131 {call : jv_F} {l0 l1 l2 l3 l4 l5 : Option Value} {a : Nat} {st : List Value} {h : jv_H} (hs : (jv_gf h a 6 4).isSome = true) : jv_ev call 126 131 [l0, l1, l2, l3, l4, l5] (.ref a :: st) h = jv_ev call 126 134 [l0, l1, l2, l3, l4, l5] ((jv_gf h a 6 4).getD .null :: st) h := by
  obtain ⟨v, hv⟩ := Option.isSome_iff_exists.mp hs
  rw [hv]
  exact je_get D126_131 rfl (by decide) hv
theorem D126_134 : decode (jt_code 126) 134 = .ok (.iconst 1, 1) := by decide +kernel
theorem E126_134 {call : jv_F} {l0 l1 l2 l3 l4 l5 : Option Value}  {st : List Value} {h : jv_H} : jv_ev call 126 134 [l0, l1, l2, l3, l4, l5] st h = jv_ev call 126 135 [l0, l1, l2, l3, l4, l5] (.int (nI 1) :: st) h := je_iconst D126_134 rfl (by decide)
theorem D126_135 : decode (jt_code 126) 135 = .ok (.iadd, 1) := by decide +kernel
theorem E126_135 {call : jv_F} {l0 l1 l2 l3 l4 l5 : Option Value} {x y : Int32} {st : List Value} {h : jv_H} : jv_ev call 126 135 [l0, l1, l2, l3, l4, l5] (.int y :: .int x :: st) h = jv_ev call 126 136 [l0, l1, l2, l3, l4, l5] (.int (x + y) :: st) h := je_b2 (f := fun x y => x + y) D126_135 rfl (fun _ => rfl)
theorem D126_136 : decode (jt_code 126) 136 = .ok (.putfield 36, 3) := by decide +kernel
theorem E126_136 {call : jv_F} {l0 l1 l2 l3 l4 l5 : Option Value} {a : Nat} {v : Value} {st : List Value} {h : jv_H} (hs : (jv_pf h a 6 4 v).isSome = true) : jv_ev call 126 136 [l0, l1, l2, l3, l4, l5] (v :: .ref a :: st) h = jv_ev call 126 139 [l0, l1, l2, l3, l4, l5] st ((jv_pf h a 6 4 v).getD h) := by
  obtain ⟨h', hv⟩ := Option.isSome_iff_exists.mp hs
  rw [hv]
  exact je_put D126_136 rfl (by decide) (by decide) hv
theorem D126_139 : decode (jt_code 126) 139 = .ok (.aload_n 0, 1) := by decide +kernel
theorem E126_139 {call : jv_F} {l1 l2 l3 l4 l5 : Option Value} {a : Nat} {st : List Value} {h : jv_H} : jv_ev call 126 139 [some (.ref a), l1, l2, l3, l4, l5] st h = jv_ev call 126 140 [some (.ref a), l1, l2, l3, l4, l5] (.ref a :: st) h := je_aload_n (r := some a) D126_139 rfl rfl
theorem D126_140 : decode (jt_code 126) 140 = .ok (.dup, 1) := by decide +kernel
theorem E126_140 {call : jv_F} {l0 l1 l2 l3 l4 l5 : Option Value} {a : Nat} {st : List Value} {h : jv_H} : jv_ev call 126 140 [l0, l1, l2, l3, l4, l5] (.ref a :: st) h = jv_ev call 126 141 [l0, l1, l2, l3, l4, l5] (.ref a :: .ref a :: st) h := je_dup D126_140 rfl rfl
theorem E126_140i {call : jv_F} {l0 l1 l2 l3 l4 l5 : Option Value} {x : Int32} {st : List Value} {h : jv_H} : jv_ev call 126 140 [l0, l1, l2, l3, l4, l5] (.int x :: st) h = jv_ev call 126 141 [l0, l1, l2, l3, l4, l5] (.int x :: .int x :: st) h := je_dup D126_140 rfl rfl
theorem D126_141 : decode (jt_code 126) 141 = .ok (.getfield 40, 3) := by decide +kernel
theorem E126_141 {call : jv_F} {l0 l1 l2 l3 l4 l5 : Option Value} {a : Nat} {st : List Value} {h : jv_H} (hs : (jv_gf h a 6 5).isSome = true) : jv_ev call 126 141 [l0, l1, l2, l3, l4, l5] (.ref a :: st) h = jv_ev call 126 144 [l0, l1, l2, l3, l4, l5] ((jv_gf h a 6 5).getD .null :: st) h := by
  obtain ⟨v, hv⟩ := Option.isSome_iff_exists.mp hs
  rw [hv]
  exact je_get D126_141 rfl (by decide) hv
theorem D126_144 : decode (jt_code 126) 144 = .ok (.iconst 1, 1) := by decide +kernel
theorem E126_144 {call : jv_F} {l0 l1 l2 l3 l4 l5 : Option Value}  {st : List Value} {h : jv_H} : jv_ev call 126 144 [l0, l1, l2, l3, l4, l5] st h = jv_ev call 126 145 [l0, l1, l2, l3, l4, l5] (.int (nI 1) :: st) h := je_iconst D126_144 rfl (by decide)
theorem D126_145 : decode (jt_code 126) 145 = .ok (.iadd, 1) := by decide +kernel
theorem E126_145 {call : jv_F} {l0 l1 l2 l3 l4 l5 : Option Value} {x y : Int32} {st : List Value} {h : jv_H} : jv_ev call 126 145 [l0, l1, l2, l3, l4, l5] (.int y :: .int x :: st) h = jv_ev call 126 146 [l0, l1, l2, l3, l4, l5] (.int (x + y) :: st) h := je_b2 (f := fun x y => x + y) D126_145 rfl (fun _ => rfl)
theorem D126_146 : decode (jt_code 126) 146 = .ok (.putfield 40, 3) := by decide +kernel
theorem E126_146 {call : jv_F} {l0 l1 l2 l3 l4 l5 : Option Value} {a : Nat} {v : Value} {st : List Value} {h : jv_H} (hs : (jv_pf h a 6 5 v).isSome = true) : jv_ev call 126 146 [l0, l1, l2, l3, l4, l5] (v :: .ref a :: st) h = jv_ev call 126 149 [l0, l1, l2, l3, l4, l5] st ((jv_pf h a 6 5 v).getD h) := by
  obtain ⟨h', hv⟩ := Option.isSome_iff_exists.mp hs
  rw [hv]
  exact je_put D126_146 rfl (by decide) (by decide) hv
theorem D126_149 : decode (jt_code 126) 149 = .ok (.aload_n 0, 1) := by decide +kernel
theorem E126_149 {call : jv_F} {l1 l2 l3 l4 l5 : Option Value} {a : Nat} {st : List Value} {h : jv_H} : jv_ev call 126 149 [some (.ref a), l1, l2, l3, l4, l5] st h = jv_ev call 126 150 [some (.ref a), l1, l2, l3, l4, l5] (.ref a :: st) h := je_aload_n (r := some a) D126_149 rfl rfl
theorem D126_150 : decode (jt_code 126) 150 = .ok (.invokevirtual 100, 3) := by decide +kernel
theorem E126_150 {call : jv_F} {l0 l1 l2 l3 l4 l5 : Option Value} {b : Nat}  {st : List Value} {h : jv_H} (hw : jv_wide st = true) (hcl : jv_cl h b = some 6) (hc : (call 140 [.ref b] h).isSome = true) : jv_ev call 126 150 [l0, l1, l2, l3, l4, l5] (.ref b :: st) h = jv_ev call 126 153 [l0, l1, l2, l3, l4, l5] ((((call 140 [.ref b] h).getD (none, h)).1).toList ++ st) ((call 140 [.ref b] h).getD (none, h)).2 := by
  obtain ⟨⟨r, h'⟩, hv⟩ := Option.isSome_iff_exists.mp hc
  rw [hv]
  exact je_virt (y := 140) (as := []) D126_150 rfl (by decide) (by decide) rfl hcl hw hv
theorem D126_153 : decode (jt_code 126) 153 = .ok (.aload 4, 2) := by decide +kernel
theorem E126_153 {call : jv_F} {l0 l1 l2 l3 l5 : Option Value} {a : Nat} {st : List Value} {h : jv_H} : jv_ev call 126 153 [l0, l1, l2, l3, some (.ref a), l5] st h = jv_ev call 126 155 [l0, l1, l2, l3, some (.ref a), l5] (.ref a :: st) h := je_aload (r := some a) D126_153 rfl rfl
theorem E126_153r {call : jv_F} {l0 l1 l2 l3 l5 : Option Value} {r : Option Nat} {st : List Value} {h : jv_H} : jv_ev call 126 153 [l0, l1, l2, l3, some (va_rf r), l5] st h = jv_ev call 126 155 [l0, l1, l2, l3, some (va_rf r), l5] (va_rf r :: st) h := je_aload (r := r) D126_153 rfl rfl
theorem D126_155 : decode (jt_code 126) 155 = .ok (.getfield 103, 3) := by decide +kernel
theorem E126_155 {call : jv_F} {l0 l1 l2 l3 l4 l5 : Option Value} {a : Nat} {st : List Value} {h : jv_H} (hs : (jv_gf h a 4 0).isSome = true) : jv_ev call 126 155 [l0, l1, l2, l3, l4, l5] (.ref a :: st) h = jv_ev call 126 158 [l0, l1, l2, l3, l4, l5] ((jv_gf h a 4 0).getD .null :: st) h := by
  obtain ⟨v, hv⟩ := Option.isSome_iff_exists.mp hs
  rw [hv]
  exact je_get D126_155 rfl (by decide) hv
theorem D126_158 : decode (jt_code 126) 158 = .ok (.ireturn, 1) := by decide +kernel
theorem E126_158 {call : jv_F} {l0 l1 l2 l3 l4 l5 : Option Value} {v : Int32} {h : jv_H} : jv_ev call 126 158 [l0, l1, l2, l3, l4, l5] [.int v] h = some (some (.int v), h) := je_iret (ty := .int) D126_158 rfl rfl rfl
/-! method 127: DrumMachine.run -/
theorem N127 {d : Nat} {b : Nat} {a0 : Int32} {h : jv_H} : jv_run (d + 1) 127 [.ref b, .int a0] h = jv_ev (jv_run d) 127 0 [some (.ref b), some (.int a0), none] [] h := jv_run_eq (Nat.le_of_ble_eq_true rfl) rfl
theorem D127_0 : decode (jt_code 127) 0 = .ok (.iload_n 1, 1) := by decide +kernel
theorem E127_0 {call : jv_F} {l0 l2 : Option Value} {x : Int32} {st : List Value} {h : jv_H} : jv_ev call 127 0 [l0, some (.int x), l2] st h = jv_ev call 127 1 [l0, some (.int x), l2] (.int x :: st) h := je_iload_n D127_0 rfl rfl
theorem D127_1 : decode (jt_code 127) 1 = .ok (.ifCond .lt 10, 3) := by decide +kernel
theorem E127_1 {call : jv_F} {l0 l1 l2 : Option Value} {x : Int32} {st : List Value} {h : jv_H} : jv_ev call 127 1 [l0, l1, l2] (.int x :: st) h = if x < 0 then jv_ev call 127 11 [l0, l1, l2] st h else jv_ev call 127 4 [l0, l1, l2] st h := je_ifc D127_1 (by decide) rfl rfl
theorem D127_4 : decode (jt_code 127) 4 = .ok (.iload_n 1, 1) := by decide +kernel
theorem E127_4 {call : jv_F} {l0 l2 : Option Value} {x : Int32} {st : List Value} {h : jv_H} : jv_ev call 127 4 [l0, some (.int x), l2] st h = jv_ev call 127 5 [l0, some (.int x), l2] (.int x :: st) h := je_iload_n D127_4 rfl rfl
theorem D127_5 : decode (jt_code 127) 5 = .ok (.sipush 20000, 3) := by decide +kernel
theorem E127_5 {call : jv_F} {l0 l1 l2 : Option Value}  {st : List Value} {h : jv_H} : jv_ev call 127 5 [l0, l1, l2] st h = jv_ev call 127 8 [l0, l1, l2] (.int (nI 20000) :: st) h := je_sipush D127_5 rfl (by decide)
theorem D127_8 : decode (jt_code 127) 8 = .ok (.if_icmp .le 5, 3) := by decide +kernel
theorem E127_8 {call : jv_F} {l0 l1 l2 : Option Value} {x y : Int32} {st : List Value} {h : jv_H} : jv_ev call 127 8 [l0, l1, l2] (.int y :: .int x :: st) h = if x ≤ y then jv_ev call 127 13 [l0, l1, l2] st h else jv_ev call 127 11 [l0, l1, l2] st h := je_icmp D127_8 (by decide) rfl rfl
theorem D127_11 : decode (jt_code 127) 11 = .ok (.iconst (-1), 1) := by decide +kernel
theorem E127_11 {call : jv_F} {l0 l1 l2 : Option Value}  {st : List Value} {h : jv_H} : jv_ev call 127 11 [l0, l1, l2] st h = jv_ev call 127 12 [l0, l1, l2] (.int (-1) :: st) h := je_iconst D127_11 rfl (by decide)
theorem D127_12 : decode (jt_code 127) 12 = .ok (.ireturn, 1) := by decide +kernel
theorem E127_12 {call : jv_F} {l0 l1 l2 : Option Value} {v : Int32} {h : jv_H} : jv_ev call 127 12 [l0, l1, l2] [.int v] h = some (some (.int v), h) := je_iret (ty := .int) D127_12 rfl rfl rfl
theorem D127_13 : decode (jt_code 127) 13 = .ok (.iconst 0, 1) := by decide +kernel
theorem E127_13 {call : jv_F} {l0 l1 l2 : Option Value}  {st : List Value} {h : jv_H} : jv_ev call 127 13 [l0, l1, l2] st h = jv_ev call 127 14 [l0, l1, l2] (.int (nI 0) :: st) h := je_iconst D127_13 rfl (by decide)
theorem D127_14 : decode (jt_code 127) 14 = .ok (.istore_n 2, 1) := by decide +kernel
theorem E127_14 {call : jv_F} {l0 l1 l2 : Option Value} {x : Int32} {st : List Value} {h : jv_H} (hk : ¬ jv_is2 (some l1) = true) : jv_ev call 127 14 [l0, l1, l2] (.int x :: st) h = jv_ev call 127 15 [l0, l1, some (.int x)] st h := je_istore_n D127_14 rfl (Nat.le_of_ble_eq_true rfl) (by show jv_st1 _ 2 _ = _; simp only [jv_st1, jv_kill, List.getElem?_cons_succ, List.getElem?_cons_zero, hk, if_false]; rfl)
theorem D127_15 : decode (jt_code 127) 15 = .ok (.iload_n 2, 1) := by decide +kernel
theorem E127_15 {call : jv_F} {l0 l1 : Option Value} {x : Int32} {st : List Value} {h : jv_H} : jv_ev call 127 15 [l0, l1, some (.int x)] st h = jv_ev call 127 16 [l0, l1, some (.int x)] (.int x :: st) h := je_iload_n D127_15 rfl rfl
theorem D127_16 : decode (jt_code 127) 16 = .ok (.iload_n 1, 1) := by decide +kernel
theorem E127_16 {call : jv_F} {l0 l2 : Option Value} {x : Int32} {st : List Value} {h : jv_H} : jv_ev call 127 16 [l0, some (.int x), l2] st h = jv_ev call 127 17 [l0, some (.int x), l2] (.int x :: st) h := je_iload_n D127_16 rfl rfl
theorem D127_17 : decode (jt_code 127) 17 = .ok (.if_icmp .ge 20, 3) := by decide +kernel
theorem E127_17 {call : jv_F} {l0 l1 l2 : Option Value} {x y : Int32} {st : List Value} {h : jv_H} : jv_ev call 127 17 [l0, l1, l2] (.int y :: .int x :: st) h = if y ≤ x then jv_ev call 127 37 [l0, l1, l2] st h else jv_ev call 127 20 [l0, l1, l2] st h := je_icmp D127_17 (by decide) rfl rfl
theorem D127_20 : decode (jt_code 127) 20 = .ok (.aload_n 0, 1) := by decide +kernel
theorem E127_20 {call : jv_F} {l1 l2 : Option Value} {a : Nat} {st : List Value} {h : jv_H} : jv_ev call 127 20 [some (.ref a), l1, l2] st h = jv_ev call 127 21 [some (.ref a), l1, l2] (.ref a :: st) h := je_aload_n (r := some a) D127_20 rfl rfl
theorem D127_21 : decode (jt_code 127) 21 = .ok (.getfield 40, 3) := by decide +kernel
theorem E127_21 {call : jv_F} {l0 l1 l2 : Option Value} {a : Nat} {st : List Value} {h : jv_H} (hs : (jv_gf h a 6 5).isSome = true) : jv_ev call 127 21 [l0, l1, l2] (.ref a :: st) h = jv_ev call 127 24 [l0, l1, l2] ((jv_gf h a 6 5).getD .null :: st) h := by
  obtain ⟨v, hv⟩ := Option.isSome_iff_exists.mp hs
  rw [hv]
  exact je_get D127_21 rfl (by decide) hv
theorem D127_24 : decode (jt_code 127) 24 = .ok (.ifCond .le 13, 3) := by decide +kernel
theorem E127_24 {call : jv_F} {l0 l1 l2 : Option Value} {x : Int32} {st : List Value} {h : jv_H} : jv_ev call 127 24 [l0, l1, l2] (.int x :: st) h = if x ≤ 0 then jv_ev call 127 37 [l0, l1, l2] st h else jv_ev call 127 27 [l0, l1, l2] st h := je_ifc D127_24 (by decide) rfl rfl
theorem D127_27 : decode (jt_code 127) 27 = .ok (.aload_n 0, 1) := by decide +kernel
theorem E127_27 {call : jv_F} {l1 l2 : Option Value} {a : Nat} {st : List Value} {h : jv_H} : jv_ev call 127 27 [some (.ref a), l1, l2] st h = jv_ev call 127 28 [some (.ref a), l1, l2] (.ref a :: st) h := je_aload_n (r := some a) D127_27 rfl rfl
theorem D127_28 : decode (jt_code 127) 28 = .ok (.invokevirtual 106, 3) := by decide +kernel
theorem E127_28 {call : jv_F} {l0 l1 l2 : Option Value} {b : Nat}  {st : List Value} {h : jv_H} (hw : jv_wide st = true) (hcl : jv_cl h b = some 6) (hc : (call 141 [.ref b] h).isSome = true) : jv_ev call 127 28 [l0, l1, l2] (.ref b :: st) h = jv_ev call 127 31 [l0, l1, l2] ((((call 141 [.ref b] h).getD (none, h)).1).toList ++ st) ((call 141 [.ref b] h).getD (none, h)).2 := by
  obtain ⟨⟨r, h'⟩, hv⟩ := Option.isSome_iff_exists.mp hc
  rw [hv]
  exact je_virt (y := 141) (as := []) D127_28 rfl (by decide) (by decide) rfl hcl hw hv
theorem D127_31 : decode (jt_code 127) 31 = .ok (.iinc 2 1, 3) := by decide +kernel
theorem E127_31 {call : jv_F} {l0 l1 : Option Value} {x : Int32} {st : List Value} {h : jv_H} (hk : ¬ jv_is2 (some l1) = true) : jv_ev call 127 31 [l0, l1, some (.int x)] st h = jv_ev call 127 34 [l0, l1, some (.int (x + (nI 1)))] st h := je_iinc D127_31 rfl rfl (v := x + (nI 1)) (by rfl) (by show jv_st1 _ 2 _ = _; simp only [jv_st1, jv_kill, List.getElem?_cons_succ, List.getElem?_cons_zero, hk, if_false]; rfl)
theorem D127_34 : decode (jt_code 127) 34 = .ok (.goto (-19), 3) := by decide +kernel
theorem E127_34 {call : jv_F} {l0 l1 l2 : Option Value}  {st : List Value} {h : jv_H} : jv_ev call 127 34 [l0, l1, l2] st h = jv_ev call 127 15 [l0, l1, l2] st h := je_goto D127_34 (by decide)
theorem D127_37 : decode (jt_code 127) 37 = .ok (.aload_n 0, 1) := by decide +kernel
theorem E127_37 {call : jv_F} {l1 l2 : Option Value} {a : Nat} {st : List Value} {h : jv_H} : jv_ev call 127 37 [some (.ref a), l1, l2] st h = jv_ev call 127 38 [some (.ref a), l1, l2] (.ref a :: st) h := je_aload_n (r := some a) D127_37 rfl rfl
theorem D127_38 : decode (jt_code 127) 38 = .ok (.getfield 40, 3) := by decide +kernel
theorem E127_38 {call : jv_F} {l0 l1 l2 : Option Value} {a : Nat} {st : List Value} {h : jv_H} (hs : (jv_gf h a 6 5).isSome = true) : jv_ev call 127 38 [l0, l1, l2] (.ref a :: st) h = jv_ev call 127 41 [l0, l1, l2] ((jv_gf h a 6 5).getD .null :: st) h := by
  obtain ⟨v, hv⟩ := Option.isSome_iff_exists.mp hs
  rw [hv]
  exact je_get D127_38 rfl (by decide) hv
theorem D127_41 : decode (jt_code 127) 41 = .ok (.ireturn, 1) := by decide +kernel
theorem E127_41 {call : jv_F} {l0 l1 l2 : Option Value} {v : Int32} {h : jv_H} : jv_ev call 127 41 [l0, l1, l2] [.int v] h = some (some (.int v), h) := je_iret (ty := .int) D127_41 rfl rfl rfl
/-! method 128: DrumMachine.ended -/
theorem N128 {d : Nat} {b : Nat} {a0 : Int32} {h : jv_H} : jv_run (d + 1) 128 [.ref b, .int a0] h = jv_ev (jv_run d) 128 0 [some (.ref b), some (.int a0), none] [] h := jv_run_eq (Nat.le_of_ble_eq_true rfl) rfl
theorem D128_0 : decode (jt_code 128) 0 = .ok (.aload_n 0, 1) := by decide +kernel
theorem E128_0 {call : jv_F} {l1 l2 : Option Value} {a : Nat} {st : List Value} {h : jv_H} : jv_ev call 128 0 [some (.ref a), l1, l2] st h = jv_ev call 128 1 [some (.ref a), l1, l2] (.ref a :: st) h := je_aload_n (r := some a) D128_0 rfl rfl
theorem D128_1 : decode (jt_code 128) 1 = .ok (.iload_n 1, 1) := by decide +kernel
theorem E128_1 {call : jv_F} {l0 l2 : Option Value} {x : Int32} {st : List Value} {h : jv_H} : jv_ev call 128 1 [l0, some (.int x), l2] st h = jv_ev call 128 2 [l0, some (.int x), l2] (.int x :: st) h := je_iload_n D128_1 rfl rfl
theorem D128_2 : decode (jt_code 128) 2 = .ok (.invokevirtual 109, 3) := by decide +kernel
theorem E128_2 {call : jv_F} {l0 l1 l2 : Option Value} {b : Nat} {v0 : Value}  {st : List Value} {h : jv_H} (hw : jv_wide st = true) (hcl : jv_cl h b = some 6) (hc : (call 139 [.ref b, v0] h).isSome = true) : jv_ev call 128 2 [l0, l1, l2] (v0 :: .ref b :: st) h = jv_ev call 128 5 [l0, l1, l2] ((((call 139 [.ref b, v0] h).getD (none, h)).1).toList ++ st) ((call 139 [.ref b, v0] h).getD (none, h)).2 := by
  obtain ⟨⟨r, h'⟩, hv⟩ := Option.isSome_iff_exists.mp hc
  rw [hv]
  exact je_virt (y := 139) (as := [v0]) D128_2 rfl (by decide) (by decide) rfl hcl hw hv
theorem D128_5 : decode (jt_code 128) 5 = .ok (.astore_n 2, 1) := by decide +kernel
theorem E128_5 {call : jv_F} {l0 l1 l2 : Option Value} {a : Nat} {st : List Value} {h : jv_H} (hk : ¬ jv_is2 (some l1) = true) : jv_ev call 128 5 [l0, l1, l2] (.ref a :: st) h = jv_ev call 128 6 [l0, l1, some (.ref a)] st h := je_astore_n (r := some a) D128_5 rfl (Nat.le_of_ble_eq_true rfl) (by show jv_st1 _ 2 _ = _; simp only [jv_st1, jv_kill, List.getElem?_cons_succ, List.getElem?_cons_zero, hk, if_false]; rfl)
theorem E128_5r {call : jv_F} {l0 l1 l2 : Option Value} {r : Option Nat} {st : List Value} {h : jv_H} (hk : ¬ jv_is2 (some l1) = true) : jv_ev call 128 5 [l0, l1, l2] (va_rf r :: st) h = jv_ev call 128 6 [l0, l1, some (va_rf r)] st h := je_astore_n (r := r) D128_5 rfl (Nat.le_of_ble_eq_true rfl) (by show jv_st1 _ 2 _ = _; simp only [jv_st1, jv_kill, List.getElem?_cons_succ, List.getElem?_cons_zero, hk, if_false]; rfl)
theorem D128_6 : decode (jt_code 128) 6 = .ok (.aload_n 2, 1) := by decide +kernel
theorem E128_6 {call : jv_F} {l0 l1 : Option Value} {a : Nat} {st : List Value} {h : jv_H} : jv_ev call 128 6 [l0, l1, some (.ref a)] st h = jv_ev call 128 7 [l0, l1, some (.ref a)] (.ref a :: st) h := je_aload_n (r := some a) D128_6 rfl rfl
theorem E128_6r {call : jv_F} {l0 l1 : Option Value} {r : Option Nat} {st : List Value} {h : jv_H} : jv_ev call 128 6 [l0, l1, some (va_rf r)] st h = jv_ev call 128 7 [l0, l1, some (va_rf r)] (va_rf r :: st) h := je_aload_n (r := r) D128_6 rfl rfl
theorem D128_7 : decode (jt_code 128) 7 = .ok (.ifnonnull 7, 3) := by decide +kernel
theorem E128_7r {call : jv_F} {l0 l1 l2 : Option Value} {x : Option Nat} {st : List Value} {h : jv_H} : jv_ev call 128 7 [l0, l1, l2] (va_rf x :: st) h = if x = none then jv_ev call 128 10 [l0, l1, l2] st h else jv_ev call 128 14 [l0, l1, l2] st h := je_ifnonnull D128_7 (by decide) rfl
theorem E128_7 {call : jv_F} {l0 l1 l2 : Option Value} {x : Nat} {st : List Value} {h : jv_H} : jv_ev call 128 7 [l0, l1, l2] (.ref x :: st) h = jv_ev call 128 14 [l0, l1, l2] st h := (je_ifnonnull (x := some x) (t := 14) D128_7 (by decide) rfl).trans (if_neg (by simp))
theorem D128_10 : decode (jt_code 128) 10 = .ok (.iconst (-1), 1) := by decide +kernel
theorem E128_10 {call : jv_F} {l0 l1 l2 : Option Value}  {st : List Value} {h : jv_H} : jv_ev call 128 10 [l0, l1, l2] st h = jv_ev call 128 11 [l0, l1, l2] (.int (-1) :: st) h := je_iconst D128_10 rfl (by decide)
theorem D128_11 : decode (jt_code 128) 11 = .ok (.goto 7, 3) := by decide +kernel
theorem E128_11 {call : jv_F} {l0 l1 l2 : Option Value}  {st : List Value} {h : jv_H} : jv_ev call 128 11 [l0, l1, l2] st h = jv_ev call 128 18 [l0, l1, l2] st h := je_goto D128_11 (by decide)
theorem D128_14 : decode (jt_code 128) 14 = .ok (.aload_n 2, 1) := by decide +kernel
theorem E128_14 {call : jv_F} {l0 l1 : Option Value} {a : Nat} {st : List Value} {h : jv_H} : jv_ev call 128 14 [l0, l1, some (.ref a)] st h = jv_ev call 128 15 [l0, l1, some (.ref a)] (.ref a :: st) h := je_aload_n (r := some a) D128_14 rfl rfl
theorem E128_14r {call : jv_F} {l0 l1 : Option Value} {r : Option Nat} {st : List Value} {h : jv_H} : jv_ev call 128 14 [l0, l1, some (va_rf r)] st h = jv_ev call 128 15 [l0, l1, some (va_rf r)] (va_rf r :: st) h := je_aload_n (r := r) D128_14 rfl rfl
theorem D128_15 : decode (jt_code 128) 15 = .ok (.getfield 113, 3) := by decide +kernel
theorem E128_15 {call : jv_F} {l0 l1 l2 : Option Value} {a : Nat} {st : List Value} {h : jv_H} (hs : (jv_gf h a 4 12).isSome = true) : jv_ev call 128 15 [l0, l1, l2] (.ref a :: st) h = jv_ev call 128 18 [l0, l1, l2] ((jv_gf h a 4 12).getD .null :: st) h := by
  obtain ⟨v, hv⟩ := Option.isSome_iff_exists.mp hs
  rw [hv]
  exact je_get D128_15 rfl (by decide) hv
theorem D128_18 : decode (jt_code 128) 18 = .ok (.ireturn, 1) := by decide +kernel
theorem E128_18 {call : jv_F} {l0 l1 l2 : Option Value} {v : Int32} {h : jv_H} : jv_ev call 128 18 [l0, l1, l2] [.int v] h = some (some (.int v), h) := je_iret (ty := .int) D128_18 rfl rfl rfl
/-! method 129: DrumMachine.done -/
theorem N129 {d : Nat} {b : Nat} {a0 : Int32} {h : jv_H} : jv_run (d + 1) 129 [.ref b, .int a0] h = jv_ev (jv_run d) 129 0 [some (.ref b), some (.int a0), none] [] h := jv_run_eq (Nat.le_of_ble_eq_true rfl) rfl
theorem D129_0 : decode (jt_code 129) 0 = .ok (.aload_n 0, 1) := by decide +kernel
theorem E129_0 {call : jv_F} {l1 l2 : Option Value} {a : Nat} {st : List Value} {h : jv_H} : jv_ev call 129 0 [some (.ref a), l1, l2] st h = jv_ev call 129 1 [some (.ref a), l1, l2] (.ref a :: st) h := je_aload_n (r := some a) D129_0 rfl rfl
theorem D129_1 : decode (jt_code 129) 1 = .ok (.iload_n 1, 1) := by decide +kernel
theorem E129_1 {call : jv_F} {l0 l2 : Option Value} {x : Int32} {st : List Value} {h : jv_H} : jv_ev call 129 1 [l0, some (.int x), l2] st h = jv_ev call 129 2 [l0, some (.int x), l2] (.int x :: st) h := je_iload_n D129_1 rfl rfl
theorem D129_2 : decode (jt_code 129) 2 = .ok (.invokevirtual 109, 3) := by decide +kernel
theorem E129_2 {call : jv_F} {l0 l1 l2 : Option Value} {b : Nat} {v0 : Value}  {st : List Value} {h : jv_H} (hw : jv_wide st = true) (hcl : jv_cl h b = some 6) (hc : (call 139 [.ref b, v0] h).isSome = true) : jv_ev call 129 2 [l0, l1, l2] (v0 :: .ref b :: st) h = jv_ev call 129 5 [l0, l1, l2] ((((call 139 [.ref b, v0] h).getD (none, h)).1).toList ++ st) ((call 139 [.ref b, v0] h).getD (none, h)).2 := by
  obtain ⟨⟨r, h'⟩, hv⟩ := Option.isSome_iff_exists.mp hc
  rw [hv]
  exact je_virt (y := 139) (as := [v0]) D129_2 rfl (by decide) (by decide) rfl hcl hw hv
theorem D129_5 : decode (jt_code 129) 5 = .ok (.astore_n 2, 1) := by decide +kernel
theorem E129_5 {call : jv_F} {l0 l1 l2 : Option Value} {a : Nat} {st : List Value} {h : jv_H} (hk : ¬ jv_is2 (some l1) = true) : jv_ev call 129 5 [l0, l1, l2] (.ref a :: st) h = jv_ev call 129 6 [l0, l1, some (.ref a)] st h := je_astore_n (r := some a) D129_5 rfl (Nat.le_of_ble_eq_true rfl) (by show jv_st1 _ 2 _ = _; simp only [jv_st1, jv_kill, List.getElem?_cons_succ, List.getElem?_cons_zero, hk, if_false]; rfl)
theorem E129_5r {call : jv_F} {l0 l1 l2 : Option Value} {r : Option Nat} {st : List Value} {h : jv_H} (hk : ¬ jv_is2 (some l1) = true) : jv_ev call 129 5 [l0, l1, l2] (va_rf r :: st) h = jv_ev call 129 6 [l0, l1, some (va_rf r)] st h := je_astore_n (r := r) D129_5 rfl (Nat.le_of_ble_eq_true rfl) (by show jv_st1 _ 2 _ = _; simp only [jv_st1, jv_kill, List.getElem?_cons_succ, List.getElem?_cons_zero, hk, if_false]; rfl)
theorem D129_6 : decode (jt_code 129) 6 = .ok (.aload_n 2, 1) := by decide +kernel
theorem E129_6 {call : jv_F} {l0 l1 : Option Value} {a : Nat} {st : List Value} {h : jv_H} : jv_ev call 129 6 [l0, l1, some (.ref a)] st h = jv_ev call 129 7 [l0, l1, some (.ref a)] (.ref a :: st) h := je_aload_n (r := some a) D129_6 rfl rfl
theorem E129_6r {call : jv_F} {l0 l1 : Option Value} {r : Option Nat} {st : List Value} {h : jv_H} : jv_ev call 129 6 [l0, l1, some (va_rf r)] st h = jv_ev call 129 7 [l0, l1, some (va_rf r)] (va_rf r :: st) h := je_aload_n (r := r) D129_6 rfl rfl
theorem D129_7 : decode (jt_code 129) 7 = .ok (.ifnonnull 7, 3) := by decide +kernel
theorem E129_7r {call : jv_F} {l0 l1 l2 : Option Value} {x : Option Nat} {st : List Value} {h : jv_H} : jv_ev call 129 7 [l0, l1, l2] (va_rf x :: st) h = if x = none then jv_ev call 129 10 [l0, l1, l2] st h else jv_ev call 129 14 [l0, l1, l2] st h := je_ifnonnull D129_7 (by decide) rfl
theorem E129_7 {call : jv_F} {l0 l1 l2 : Option Value} {x : Nat} {st : List Value} {h : jv_H} : jv_ev call 129 7 [l0, l1, l2] (.ref x :: st) h = jv_ev call 129 14 [l0, l1, l2] st h := (je_ifnonnull (x := some x) (t := 14) D129_7 (by decide) rfl).trans (if_neg (by simp))
theorem D129_10 : decode (jt_code 129) 10 = .ok (.iconst (-1), 1) := by decide +kernel
theorem E129_10 {call : jv_F} {l0 l1 l2 : Option Value}  {st : List Value} {h : jv_H} : jv_ev call 129 10 [l0, l1, l2] st h = jv_ev call 129 11 [l0, l1, l2] (.int (-1) :: st) h := je_iconst D129_10 rfl (by decide)
theorem D129_11 : decode (jt_code 129) 11 = .ok (.goto 7, 3) := by decide +kernel
theorem E129_11 {call : jv_F} {l0 l1 l2 : Option Value}  {st : List Value} {h : jv_H} : jv_ev call 129 11 [l0, l1, l2] st h = jv_ev call 129 18 [l0, l1, l2] st h := je_goto D129_11 (by decide)
theorem D129_14 : decode (jt_code 129) 14 = .ok (.aload_n 2, 1) := by decide +kernel
theorem E129_14 {call : jv_F} {l0 l1 : Option Value} {a : Nat} {st : List Value} {h : jv_H} : jv_ev call 129 14 [l0, l1, some (.ref a)] st h = jv_ev call 129 15 [l0, l1, some (.ref a)] (.ref a :: st) h := je_aload_n (r := some a) D129_14 rfl rfl
theorem E129_14r {call : jv_F} {l0 l1 : Option Value} {r : Option Nat} {st : List Value} {h : jv_H} : jv_ev call 129 14 [l0, l1, some (va_rf r)] st h = jv_ev call 129 15 [l0, l1, some (va_rf r)] (va_rf r :: st) h := je_aload_n (r := r) D129_14 rfl rfl
theorem D129_15 : decode (jt_code 129) 15 = .ok (.getfield 116, 3) := by decide +kernel
theorem E129_15 {call : jv_F} {l0 l1 l2 : Option Value} {a : Nat} {st : List Value} {h : jv_H} (hs : (jv_gf h a 4 11).isSome = true) : jv_ev call 129 15 [l0, l1, l2] (.ref a :: st) h = jv_ev call 129 18 [l0, l1, l2] ((jv_gf h a 4 11).getD .null :: st) h := by
  obtain ⟨v, hv⟩ := Option.isSome_iff_exists.mp hs
  rw [hv]
  exact je_get D129_15 rfl (by decide) hv
theorem D129_18 : decode (jt_code 129) 18 = .ok (.ireturn, 1) := by decide +kernel
theorem E129_18 {call : jv_F} {l0 l1 l2 : Option Value} {v : Int32} {h : jv_H} : jv_ev call 129 18 [l0, l1, l2] [.int v] h = some (some (.int v), h) := je_iret (ty := .int) D129_18 rfl rfl rfl
/-! method 130: DrumMachine.printed -/
theorem N130 {d : Nat} {b : Nat} {a0 : Int32} {h : jv_H} : jv_run (d + 1) 130 [.ref b, .int a0] h = jv_ev (jv_run d) 130 0 [some (.ref b), some (.int a0), none] [] h := jv_run_eq (Nat.le_of_ble_eq_true rfl) rfl
theorem D130_0 : decode (jt_code 130) 0 = .ok (.aload_n 0, 1) := by decide +kernel
theorem E130_0 {call : jv_F} {l1 l2 : Option Value} {a : Nat} {st : List Value} {h : jv_H} : jv_ev call 130 0 [some (.ref a), l1, l2] st h = jv_ev call 130 1 [some (.ref a), l1, l2] (.ref a :: st) h := je_aload_n (r := some a) D130_0 rfl rfl
theorem D130_1 : decode (jt_code 130) 1 = .ok (.iload_n 1, 1) := by decide +kernel
theorem E130_1 {call : jv_F} {l0 l2 : Option Value} {x : Int32} {st : List Value} {h : jv_H} : jv_ev call 130 1 [l0, some (.int x), l2] st h = jv_ev call 130 2 [l0, some (.int x), l2] (.int x :: st) h := je_iload_n D130_1 rfl rfl
theorem D130_2 : decode (jt_code 130) 2 = .ok (.invokevirtual 109, 3) := by decide +kernel
theorem E130_2 {call : jv_F} {l0 l1 l2 : Option Value} {b : Nat} {v0 : Value}  {st : List Value} {h : jv_H} (hw : jv_wide st = true) (hcl : jv_cl h b = some 6) (hc : (call 139 [.ref b, v0] h).isSome = true) : jv_ev call 130 2 [l0, l1, l2] (v0 :: .ref b :: st) h = jv_ev call 130 5 [l0, l1, l2] ((((call 139 [.ref b, v0] h).getD (none, h)).1).toList ++ st) ((call 139 [.ref b, v0] h).getD (none, h)).2 := by
  obtain ⟨⟨r, h'⟩, hv⟩ := Option.isSome_iff_exists.mp hc
  rw [hv]
  exact je_virt (y := 139) (as := [v0]) D130_2 rfl (by decide) (by decide) rfl hcl hw hv
theorem D130_5 : decode (jt_code 130) 5 = .ok (.astore_n 2, 1) := by decide +kernel
theorem E130_5 {call : jv_F} {l0 l1 l2 : Option Value} {a : Nat} {st : List Value} {h : jv_H} (hk : ¬ jv_is2 (some l1) = true) : jv_ev call 130 5 [l0, l1, l2] (.ref a :: st) h = jv_ev call 130 6 [l0, l1, some (.ref a)] st h := je_astore_n (r := some a) D130_5 rfl (Nat.le_of_ble_eq_true rfl) (by show jv_st1 _ 2 _ = _; simp only [jv_st1, jv_kill, List.getElem?_cons_succ, List.getElem?_cons_zero, hk, if_false]; rfl)
theorem E130_5r {call : jv_F} {l0 l1 l2 : Option Value} {r : Option Nat} {st : List Value} {h : jv_H} (hk : ¬ jv_is2 (some l1) = true) : jv_ev call 130 5 [l0, l1, l2] (va_rf r :: st) h = jv_ev call 130 6 [l0, l1, some (va_rf r)] st h := je_astore_n (r := r) D130_5 rfl (Nat.le_of_ble_eq_true rfl) (by show jv_st1 _ 2 _ = _; simp only [jv_st1, jv_kill, List.getElem?_cons_succ, List.getElem?_cons_zero, hk, if_false]; rfl)
theorem D130_6 : decode (jt_code 130) 6 = .ok (.aload_n 2, 1) := by decide +kernel
theorem E130_6 {call : jv_F} {l0 l1 : Option Value} {a : Nat} {st : List Value} {h : jv_H} : jv_ev call 130 6 [l0, l1, some (.ref a)] st h = jv_ev call 130 7 [l0, l1, some (.ref a)] (.ref a :: st) h := je_aload_n (r := some a) D130_6 rfl rfl
theorem E130_6r {call : jv_F} {l0 l1 : Option Value} {r : Option Nat} {st : List Value} {h : jv_H} : jv_ev call 130 6 [l0, l1, some (va_rf r)] st h = jv_ev call 130 7 [l0, l1, some (va_rf r)] (va_rf r :: st) h := je_aload_n (r := r) D130_6 rfl rfl
theorem D130_7 : decode (jt_code 130) 7 = .ok (.ifnonnull 7, 3) := by decide +kernel
theorem E130_7r {call : jv_F} {l0 l1 l2 : Option Value} {x : Option Nat} {st : List Value} {h : jv_H} : jv_ev call 130 7 [l0, l1, l2] (va_rf x :: st) h = if x = none then jv_ev call 130 10 [l0, l1, l2] st h else jv_ev call 130 14 [l0, l1, l2] st h := je_ifnonnull D130_7 (by decide) rfl
theorem E130_7 {call : jv_F} {l0 l1 l2 : Option Value} {x : Nat} {st : List Value} {h : jv_H} : jv_ev call 130 7 [l0, l1, l2] (.ref x :: st) h = jv_ev call 130 14 [l0, l1, l2] st h := (je_ifnonnull (x := some x) (t := 14) D130_7 (by decide) rfl).trans (if_neg (by simp))
theorem D130_10 : decode (jt_code 130) 10 = .ok (.iconst (-1), 1) := by decide +kernel
theorem E130_10 {call : jv_F} {l0 l1 l2 : Option Value}  {st : List Value} {h : jv_H} : jv_ev call 130 10 [l0, l1, l2] st h = jv_ev call 130 11 [l0, l1, l2] (.int (-1) :: st) h := je_iconst D130_10 rfl (by decide)
theorem D130_11 : decode (jt_code 130) 11 = .ok (.goto 7, 3) := by decide +kernel
theorem E130_11 {call : jv_F} {l0 l1 l2 : Option Value}  {st : List Value} {h : jv_H} : jv_ev call 130 11 [l0, l1, l2] st h = jv_ev call 130 18 [l0, l1, l2] st h := je_goto D130_11 (by decide)
theorem D130_14 : decode (jt_code 130) 14 = .ok (.aload_n 2, 1) := by decide +kernel
theorem E130_14 {call : jv_F} {l0 l1 : Option Value} {a : Nat} {st : List Value} {h : jv_H} : jv_ev call 130 14 [l0, l1, some (.ref a)] st h = jv_ev call 130 15 [l0, l1, some (.ref a)] (.ref a :: st) h := je_aload_n (r := some a) D130_14 rfl rfl
theorem E130_14r {call : jv_F} {l0 l1 : Option Value} {r : Option Nat} {st : List Value} {h : jv_H} : jv_ev call 130 14 [l0, l1, some (va_rf r)] st h = jv_ev call 130 15 [l0, l1, some (va_rf r)] (va_rf r :: st) h := je_aload_n (r := r) D130_14 rfl rfl
theorem D130_15 : decode (jt_code 130) 15 = .ok (.getfield 117, 3) := by decide +kernel
theorem E130_15 {call : jv_F} {l0 l1 l2 : Option Value} {a : Nat} {st : List Value} {h : jv_H} (hs : (jv_gf h a 4 10).isSome = true) : jv_ev call 130 15 [l0, l1, l2] (.ref a :: st) h = jv_ev call 130 18 [l0, l1, l2] ((jv_gf h a 4 10).getD .null :: st) h := by
  obtain ⟨v, hv⟩ := Option.isSome_iff_exists.mp hs
  rw [hv]
  exact je_get D130_15 rfl (by decide) hv
theorem D130_18 : decode (jt_code 130) 18 = .ok (.ireturn, 1) := by decide +kernel
theorem E130_18 {call : jv_F} {l0 l1 l2 : Option Value} {v : Int32} {h : jv_H} : jv_ev call 130 18 [l0, l1, l2] [.int v] h = some (some (.int v), h) := je_iret (ty := .int) D130_18 rfl rfl rfl
/-! method 131: DrumMachine.out -/
theorem N131 {d : Nat} {b : Nat} {a0 : Int32} {a1 : Int32} {h : jv_H} : jv_run (d + 1) 131 [.ref b, .int a0, .int a1] h = jv_ev (jv_run d) 131 0 [some (.ref b), some (.int a0), some (.int a1), none] [] h := jv_run_eq (Nat.le_of_ble_eq_true rfl) rfl
theorem D131_0 : decode (jt_code 131) 0 = .ok (.aload_n 0, 1) := by decide +kernel
theorem E131_0 {call : jv_F} {l1 l2 l3 : Option Value} {a : Nat} {st : List Value} {h : jv_H} : jv_ev call 131 0 [some (.ref a), l1, l2, l3] st h = jv_ev call 131 1 [some (.ref a), l1, l2, l3] (.ref a :: st) h := je_aload_n (r := some a) D131_0 rfl rfl
theorem D131_1 : decode (jt_code 131) 1 = .ok (.iload_n 1, 1) := by decide +kernel
theorem E131_1 {call : jv_F} {l0 l2 l3 : Option Value} {x : Int32} {st : List Value} {h : jv_H} : jv_ev call 131 1 [l0, some (.int x), l2, l3] st h = jv_ev call 131 2 [l0, some (.int x), l2, l3] (.int x :: st) h := je_iload_n D131_1 rfl rfl
theorem D131_2 : decode (jt_code 131) 2 = .ok (.invokevirtual 109, 3) := by decide +kernel
theorem E131_2 {call : jv_F} {l0 l1 l2 l3 : Option Value} {b : Nat} {v0 : Value}  {st : List Value} {h : jv_H} (hw : jv_wide st = true) (hcl : jv_cl h b = some 6) (hc : (call 139 [.ref b, v0] h).isSome = true) : jv_ev call 131 2 [l0, l1, l2, l3] (v0 :: .ref b :: st) h = jv_ev call 131 5 [l0, l1, l2, l3] ((((call 139 [.ref b, v0] h).getD (none, h)).1).toList ++ st) ((call 139 [.ref b, v0] h).getD (none, h)).2 := by
  obtain ⟨⟨r, h'⟩, hv⟩ := Option.isSome_iff_exists.mp hc
  rw [hv]
  exact je_virt (y := 139) (as := [v0]) D131_2 rfl (by decide) (by decide) rfl hcl hw hv
theorem D131_5 : decode (jt_code 131) 5 = .ok (.astore_n 3, 1) := by decide +kernel
theorem E131_5 {call : jv_F} {l0 l1 l2 l3 : Option Value} {a : Nat} {st : List Value} {h : jv_H} (hk : ¬ jv_is2 (some l2) = true) : jv_ev call 131 5 [l0, l1, l2, l3] (.ref a :: st) h = jv_ev call 131 6 [l0, l1, l2, some (.ref a)] st h := je_astore_n (r := some a) D131_5 rfl (Nat.le_of_ble_eq_true rfl) (by show jv_st1 _ 3 _ = _; simp only [jv_st1, jv_kill, List.getElem?_cons_succ, List.getElem?_cons_zero, hk, if_false]; rfl)
theorem E131_5r {call : jv_F} {l0 l1 l2 l3 : Option Value} {r : Option Nat} {st : List Value} {h : jv_H} (hk : ¬ jv_is2 (some l2) = true) : jv_ev call 131 5 [l0, l1, l2, l3] (va_rf r :: st) h = jv_ev call 131 6 [l0, l1, l2, some (va_rf r)] st h := je_astore_n (r := r) D131_5 rfl (Nat.le_of_ble_eq_true rfl) (by show jv_st1 _ 3 _ = _; simp only [jv_st1, jv_kill, List.getElem?_cons_succ, List.getElem?_cons_zero, hk, if_false]; rfl)
theorem D131_6 : decode (jt_code 131) 6 = .ok (.aload_n 3, 1) := by decide +kernel
theorem E131_6 {call : jv_F} {l0 l1 l2 : Option Value} {a : Nat} {st : List Value} {h : jv_H} : jv_ev call 131 6 [l0, l1, l2, some (.ref a)] st h = jv_ev call 131 7 [l0, l1, l2, some (.ref a)] (.ref a :: st) h := je_aload_n (r := some a) D131_6 rfl rfl
theorem E131_6r {call : jv_F} {l0 l1 l2 : Option Value} {r : Option Nat} {st : List Value} {h : jv_H} : jv_ev call 131 6 [l0, l1, l2, some (va_rf r)] st h = jv_ev call 131 7 [l0, l1, l2, some (va_rf r)] (va_rf r :: st) h := je_aload_n (r := r) D131_6 rfl rfl
theorem D131_7 : decode (jt_code 131) 7 = .ok (.ifnonnull 7, 3) := by decide +kernel
theorem E131_7r {call : jv_F} {l0 l1 l2 l3 : Option Value} {x : Option Nat} {st : List Value} {h : jv_H} : jv_ev call 131 7 [l0, l1, l2, l3] (va_rf x :: st) h = if x = none then jv_ev call 131 10 [l0, l1, l2, l3] st h else jv_ev call 131 14 [l0, l1, l2, l3] st h := je_ifnonnull D131_7 (by decide) rfl
theorem E131_7 {call : jv_F} {l0 l1 l2 l3 : Option Value} {x : Nat} {st : List Value} {h : jv_H} : jv_ev call 131 7 [l0, l1, l2, l3] (.ref x :: st) h = jv_ev call 131 14 [l0, l1, l2, l3] st h := (je_ifnonnull (x := some x) (t := 14) D131_7 (by decide) rfl).trans (if_neg (by simp))
theorem D131_10 : decode (jt_code 131) 10 = .ok (.iconst (-1), 1) := by decide +kernel
theorem E131_10 {call : jv_F} {l0 l1 l2 l3 : Option Value}  {st : List Value} {h : jv_H} : jv_ev call 131 10 [l0, l1, l2, l3] st h = jv_ev call 131 11 [l0, l1, l2, l3] (.int (-1) :: st) h := je_iconst D131_10 rfl (by decide)
theorem D131_11 : decode (jt_code 131) 11 = .ok (.goto 8, 3) := by decide +kernel
theorem E131_11 {call : jv_F} {l0 l1 l2 l3 : Option Value}  {st : List Value} {h : jv_H} : jv_ev call 131 11 [l0, l1, l2, l3] st h = jv_ev call 131 19 [l0, l1, l2, l3] st h := je_goto D131_11 (by decide)
theorem D131_14 : decode (jt_code 131) 14 = .ok (.aload_n 3, 1) := by decide +kernel
theorem E131_14 {call : jv_F} {l0 l1 l2 : Option Value} {a : Nat} {st : List Value} {h : jv_H} : jv_ev call 131 14 [l0, l1, l2, some (.ref a)] st h = jv_ev call 131 15 [l0, l1, l2, some (.ref a)] (.ref a :: st) h := je_aload_n (r := some a) D131_14 rfl rfl
theorem E131_14r {call : jv_F} {l0 l1 l2 : Option Value} {r : Option Nat} {st : List Value} {h : jv_H} : jv_ev call 131 14 [l0, l1, l2, some (va_rf r)] st h = jv_ev call 131 15 [l0, l1, l2, some (va_rf r)] (va_rf r :: st) h := je_aload_n (r := r) D131_14 rfl rfl
theorem D131_15 : decode (jt_code 131) 15 = .ok (.iload_n 2, 1) := by decide +kernel
theorem E131_15 {call : jv_F} {l0 l1 l3 : Option Value} {x : Int32} {st : List Value} {h : jv_H} : jv_ev call 131 15 [l0, l1, some (.int x), l3] st h = jv_ev call 131 16 [l0, l1, some (.int x), l3] (.int x :: st) h := je_iload_n D131_15 rfl rfl
theorem D131_16 : decode (jt_code 131) 16 = .ok (.invokevirtual 120, 3) := by decide +kernel
theorem E131_16 {call : jv_F} {l0 l1 l2 l3 : Option Value} {b : Nat} {v0 : Value}  {st : List Value} {h : jv_H} (hw : jv_wide st = true) (hcl : jv_cl h b = some 4) (hc : (call 101 [.ref b, v0] h).isSome = true) : jv_ev call 131 16 [l0, l1, l2, l3] (v0 :: .ref b :: st) h = jv_ev call 131 19 [l0, l1, l2, l3] ((((call 101 [.ref b, v0] h).getD (none, h)).1).toList ++ st) ((call 101 [.ref b, v0] h).getD (none, h)).2 := by
  obtain ⟨⟨r, h'⟩, hv⟩ := Option.isSome_iff_exists.mp hc
  rw [hv]
  exact je_virt (y := 101) (as := [v0]) D131_16 rfl (by decide) (by decide) rfl hcl hw hv
theorem D131_19 : decode (jt_code 131) 19 = .ok (.ireturn, 1) := by decide +kernel
theorem E131_19 {call : jv_F} {l0 l1 l2 l3 : Option Value} {v : Int32} {h : jv_H} : jv_ev call 131 19 [l0, l1, l2, l3] [.int v] h = some (some (.int v), h) := je_iret (ty := .int) D131_19 rfl rfl rfl
/-! method 132: DrumMachine.register -/
theorem N132 {d : Nat} {b : Nat} {a0 : Int32} {a1 : Int32} {h : jv_H} : jv_run (d + 1) 132 [.ref b, .int a0, .int a1] h = jv_ev (jv_run d) 132 0 [some (.ref b), some (.int a0), some (.int a1), none] [] h := jv_run_eq (Nat.le_of_ble_eq_true rfl) rfl
theorem D132_0 : decode (jt_code 132) 0 = .ok (.aload_n 0, 1) := by decide +kernel
theorem E132_0 {call : jv_F} {l1 l2 l3 : Option Value} {a : Nat} {st : List Value} {h : jv_H} : jv_ev call 132 0 [some (.ref a), l1, l2, l3] st h = jv_ev call 132 1 [some (.ref a), l1, l2, l3] (.ref a :: st) h := je_aload_n (r := some a) D132_0 rfl rfl
theorem D132_1 : decode (jt_code 132) 1 = .ok (.iload_n 1, 1) := by decide +kernel
theorem E132_1 {call : jv_F} {l0 l2 l3 : Option Value} {x : Int32} {st : List Value} {h : jv_H} : jv_ev call 132 1 [l0, some (.int x), l2, l3] st h = jv_ev call 132 2 [l0, some (.int x), l2, l3] (.int x :: st) h := je_iload_n D132_1 rfl rfl
theorem D132_2 : decode (jt_code 132) 2 = .ok (.invokevirtual 109, 3) := by decide +kernel
theorem E132_2 {call : jv_F} {l0 l1 l2 l3 : Option Value} {b : Nat} {v0 : Value}  {st : List Value} {h : jv_H} (hw : jv_wide st = true) (hcl : jv_cl h b = some 6) (hc : (call 139 [.ref b, v0] h).isSome = true) : jv_ev call 132 2 [l0, l1, l2, l3] (v0 :: .ref b :: st) h = jv_ev call 132 5 [l0, l1, l2, l3] ((((call 139 [.ref b, v0] h).getD (none, h)).1).toList ++ st) ((call 139 [.ref b, v0] h).getD (none, h)).2 := by
  obtain ⟨⟨r, h'⟩, hv⟩ := Option.isSome_iff_exists.mp hc
  rw [hv]
  exact je_virt (y := 139) (as := [v0]) D132_2 rfl (by decide) (by decide) rfl hcl hw hv
theorem D132_5 : decode (jt_code 132) 5 = .ok (.astore_n 3, 1) := by decide +kernel
theorem E132_5 {call : jv_F} {l0 l1 l2 l3 : Option Value} {a : Nat} {st : List Value} {h : jv_H} (hk : ¬ jv_is2 (some l2) = true) : jv_ev call 132 5 [l0, l1, l2, l3] (.ref a :: st) h = jv_ev call 132 6 [l0, l1, l2, some (.ref a)] st h := je_astore_n (r := some a) D132_5 rfl (Nat.le_of_ble_eq_true rfl) (by show jv_st1 _ 3 _ = _; simp only [jv_st1, jv_kill, List.getElem?_cons_succ, List.getElem?_cons_zero, hk, if_false]; rfl)
theorem E132_5r {call : jv_F} {l0 l1 l2 l3 : Option Value} {r : Option Nat} {st : List Value} {h : jv_H} (hk : ¬ jv_is2 (some l2) = true) : jv_ev call 132 5 [l0, l1, l2, l3] (va_rf r :: st) h = jv_ev call 132 6 [l0, l1, l2, some (va_rf r)] st h := je_astore_n (r := r) D132_5 rfl (Nat.le_of_ble_eq_true rfl) (by show jv_st1 _ 3 _ = _; simp only [jv_st1, jv_kill, List.getElem?_cons_succ, List.getElem?_cons_zero, hk, if_false]; rfl)
theorem D132_6 : decode (jt_code 132) 6 = .ok (.aload_n 3, 1) := by decide +kernel
theorem E132_6 {call : jv_F} {l0 l1 l2 : Option Value} {a : Nat} {st : List Value} {h : jv_H} : jv_ev call 132 6 [l0, l1, l2, some (.ref a)] st h = jv_ev call 132 7 [l0, l1, l2, some (.ref a)] (.ref a :: st) h := je_aload_n (r := some a) D132_6 rfl rfl
theorem E132_6r {call : jv_F} {l0 l1 l2 : Option Value} {r : Option Nat} {st : List Value} {h : jv_H} : jv_ev call 132 6 [l0, l1, l2, some (va_rf r)] st h = jv_ev call 132 7 [l0, l1, l2, some (va_rf r)] (va_rf r :: st) h := je_aload_n (r := r) D132_6 rfl rfl
theorem D132_7 : decode (jt_code 132) 7 = .ok (.ifnonnull 5, 3) := by decide +kernel
theorem E132_7r {call : jv_F} {l0 l1 l2 l3 : Option Value} {x : Option Nat} {st : List Value} {h : jv_H} : jv_ev call 132 7 [l0, l1, l2, l3] (va_rf x :: st) h = if x = none then jv_ev call 132 10 [l0, l1, l2, l3] st h else jv_ev call 132 12 [l0, l1, l2, l3] st h := je_ifnonnull D132_7 (by decide) rfl
theorem E132_7 {call : jv_F} {l0 l1 l2 l3 : Option Value} {x : Nat} {st : List Value} {h : jv_H} : jv_ev call 132 7 [l0, l1, l2, l3] (.ref x :: st) h = jv_ev call 132 12 [l0, l1, l2, l3] st h := (je_ifnonnull (x := some x) (t := 12) D132_7 (by decide) rfl).trans (if_neg (by simp))
theorem D132_10 : decode (jt_code 132) 10 = .ok (.lconst 0, 1) := by decide +kernel
theorem E132_10 {call : jv_F} {l0 l1 l2 l3 : Option Value}  {st : List Value} {h : jv_H} : jv_ev call 132 10 [l0, l1, l2, l3] st h = jv_ev call 132 11 [l0, l1, l2, l3] (.long 0 :: st) h := je_lconst D132_10 rfl (by decide)
theorem D132_11 : decode (jt_code 132) 11 = .ok (.lreturn, 1) := by decide +kernel
theorem E132_11 {call : jv_F} {l0 l1 l2 l3 : Option Value} {v : Int64} {h : jv_H} : jv_ev call 132 11 [l0, l1, l2, l3] [.long v] h = some (some (.long v), h) := je_lret D132_11 rfl
theorem D132_12 : decode (jt_code 132) 12 = .ok (.iload_n 2, 1) := by decide +kernel
theorem E132_12 {call : jv_F} {l0 l1 l3 : Option Value} {x : Int32} {st : List Value} {h : jv_H} : jv_ev call 132 12 [l0, l1, some (.int x), l3] st h = jv_ev call 132 13 [l0, l1, some (.int x), l3] (.int x :: st) h := je_iload_n D132_12 rfl rfl
theorem D132_13 : decode (jt_code 132) 13 = .ok (.iconst (-1), 1) := by decide +kernel
theorem E132_13 {call : jv_F} {l0 l1 l2 l3 : Option Value}  {st : List Value} {h : jv_H} : jv_ev call 132 13 [l0, l1, l2, l3] st h = jv_ev call 132 14 [l0, l1, l2, l3] (.int (-1) :: st) h := je_iconst D132_13 rfl (by decide)
theorem D132_14 : decode (jt_code 132) 14 = .ok (.if_icmp .ne 8, 3) := by decide +kernel
theorem E132_14 {call : jv_F} {l0 l1 l2 l3 : Option Value} {x y : Int32} {st : List Value} {h : jv_H} : jv_ev call 132 14 [l0, l1, l2, l3] (.int y :: .int x :: st) h = if ¬ x = y then jv_ev call 132 22 [l0, l1, l2, l3] st h else jv_ev call 132 17 [l0, l1, l2, l3] st h := je_icmp D132_14 (by decide) rfl rfl
theorem D132_17 : decode (jt_code 132) 17 = .ok (.aload_n 3, 1) := by decide +kernel
theorem E132_17 {call : jv_F} {l0 l1 l2 : Option Value} {a : Nat} {st : List Value} {h : jv_H} : jv_ev call 132 17 [l0, l1, l2, some (.ref a)] st h = jv_ev call 132 18 [l0, l1, l2, some (.ref a)] (.ref a :: st) h := je_aload_n (r := some a) D132_17 rfl rfl
theorem E132_17r {call : jv_F} {l0 l1 l2 : Option Value} {r : Option Nat} {st : List Value} {h : jv_H} : jv_ev call 132 17 [l0, l1, l2, some (va_rf r)] st h = jv_ev call 132 18 [l0, l1, l2, some (va_rf r)] (va_rf r :: st) h := je_aload_n (r := r) D132_17 rfl rfl
theorem D132_18 : decode (jt_code 132) 18 = .ok (.getfield 124, 3) := by decide +kernel
theorem E132_18 {call : jv_F} {l0 l1 l2 l3 : Option Value} {a : Nat} {st : List Value} {h : jv_H} (hs : (jv_gf h a 4 2).isSome = true) : jv_ev call 132 18 [l0, l1, l2, l3] (.ref a :: st) h = jv_ev call 132 21 [l0, l1, l2, l3] ((jv_gf h a 4 2).getD .null :: st) h := by
  obtain ⟨v, hv⟩ := Option.isSome_iff_exists.mp hs
  rw [hv]
  exact je_get D132_18 rfl (by decide) hv
theorem D132_21 : decode (jt_code 132) 21 = .ok (.lreturn, 1) := by decide +kernel
theorem E132_21 {call : jv_F} {l0 l1 l2 l3 : Option Value} {v : Int64} {h : jv_H} : jv_ev call 132 21 [l0, l1, l2, l3] [.long v] h = some (some (.long v), h) := je_lret D132_21 rfl
theorem D132_22 : decode (jt_code 132) 22 = .ok (.iload_n 2, 1) := by decide +kernel
theorem E132_22 {call : jv_F} {l0 l1 l3 : Option Value} {x : Int32} {st : List Value} {h : jv_H} : jv_ev call 132 22 [l0, l1, some (.int x), l3] st h = jv_ev call 132 23 [l0, l1, some (.int x), l3] (.int x :: st) h := je_iload_n D132_22 rfl rfl
theorem D132_23 : decode (jt_code 132) 23 = .ok (.sipush 128, 3) := by decide +kernel
theorem E132_23 {call : jv_F} {l0 l1 l2 l3 : Option Value}  {st : List Value} {h : jv_H} : jv_ev call 132 23 [l0, l1, l2, l3] st h = jv_ev call 132 26 [l0, l1, l2, l3] (.int (nI 128) :: st) h := je_sipush D132_23 rfl (by decide)
theorem D132_26 : decode (jt_code 132) 26 = .ok (.if_icmp .ne 11, 3) := by decide +kernel
theorem E132_26 {call : jv_F} {l0 l1 l2 l3 : Option Value} {x y : Int32} {st : List Value} {h : jv_H} : jv_ev call 132 26 [l0, l1, l2, l3] (.int y :: .int x :: st) h = if ¬ x = y then jv_ev call 132 37 [l0, l1, l2, l3] st h else jv_ev call 132 29 [l0, l1, l2, l3] st h := je_icmp D132_26 (by decide) rfl rfl
theorem D132_29 : decode (jt_code 132) 29 = .ok (.aload_n 3, 1) := by decide +kernel
theorem E132_29 {call : jv_F} {l0 l1 l2 : Option Value} {a : Nat} {st : List Value} {h : jv_H} : jv_ev call 132 29 [l0, l1, l2, some (.ref a)] st h = jv_ev call 132 30 [l0, l1, l2, some (.ref a)] (.ref a :: st) h := je_aload_n (r := some a) D132_29 rfl rfl
theorem E132_29r {call : jv_F} {l0 l1 l2 : Option Value} {r : Option Nat} {st : List Value} {h : jv_H} : jv_ev call 132 29 [l0, l1, l2, some (va_rf r)] st h = jv_ev call 132 30 [l0, l1, l2, some (va_rf r)] (va_rf r :: st) h := je_aload_n (r := r) D132_29 rfl rfl
theorem D132_30 : decode (jt_code 132) 30 = .ok (.getfield 128, 3) := by decide +kernel
theorem E132_30 {call : jv_F} {l0 l1 l2 l3 : Option Value} {a : Nat} {st : List Value} {h : jv_H} (hs : (jv_gf h a 4 4).isSome = true) : jv_ev call 132 30 [l0, l1, l2, l3] (.ref a :: st) h = jv_ev call 132 33 [l0, l1, l2, l3] ((jv_gf h a 4 4).getD .null :: st) h := by
  obtain ⟨v, hv⟩ := Option.isSome_iff_exists.mp hs
  rw [hv]
  exact je_get D132_30 rfl (by decide) hv
theorem D132_33 : decode (jt_code 132) 33 = .ok (.i2l, 1) := by decide +kernel
theorem E132_33 {call : jv_F} {l0 l1 l2 l3 : Option Value} {x : Int32} {st : List Value} {h : jv_H} : jv_ev call 132 33 [l0, l1, l2, l3] (.int x :: st) h = jv_ev call 132 34 [l0, l1, l2, l3] (.long x.toInt64 :: st) h := je_i2l D132_33 rfl
theorem D132_34 : decode (jt_code 132) 34 = .ok (.goto 9, 3) := by decide +kernel
theorem E132_34 {call : jv_F} {l0 l1 l2 l3 : Option Value}  {st : List Value} {h : jv_H} : jv_ev call 132 34 [l0, l1, l2, l3] st h = jv_ev call 132 43 [l0, l1, l2, l3] st h := je_goto D132_34 (by decide)
theorem D132_37 : decode (jt_code 132) 37 = .ok (.aload_n 3, 1) := by decide +kernel
theorem E132_37 {call : jv_F} {l0 l1 l2 : Option Value} {a : Nat} {st : List Value} {h : jv_H} : jv_ev call 132 37 [l0, l1, l2, some (.ref a)] st h = jv_ev call 132 38 [l0, l1, l2, some (.ref a)] (.ref a :: st) h := je_aload_n (r := some a) D132_37 rfl rfl
theorem E132_37r {call : jv_F} {l0 l1 l2 : Option Value} {r : Option Nat} {st : List Value} {h : jv_H} : jv_ev call 132 37 [l0, l1, l2, some (va_rf r)] st h = jv_ev call 132 38 [l0, l1, l2, some (va_rf r)] (va_rf r :: st) h := je_aload_n (r := r) D132_37 rfl rfl
theorem D132_38 : decode (jt_code 132) 38 = .ok (.iload_n 2, 1) := by decide +kernel
theorem E132_38 {call : jv_F} {l0 l1 l3 : Option Value} {x : Int32} {st : List Value} {h : jv_H} : jv_ev call 132 38 [l0, l1, some (.int x), l3] st h = jv_ev call 132 39 [l0, l1, some (.int x), l3] (.int x :: st) h := je_iload_n D132_38 rfl rfl
theorem D132_39 : decode (jt_code 132) 39 = .ok (.invokevirtual 131, 3) := by decide +kernel
theorem E132_39 {call : jv_F} {l0 l1 l2 l3 : Option Value} {b : Nat} {v0 : Value}  {st : List Value} {h : jv_H} (hw : jv_wide st = true) (hcl : jv_cl h b = some 4) (hc : (call 99 [.ref b, v0] h).isSome = true) : jv_ev call 132 39 [l0, l1, l2, l3] (v0 :: .ref b :: st) h = jv_ev call 132 42 [l0, l1, l2, l3] ((((call 99 [.ref b, v0] h).getD (none, h)).1).toList ++ st) ((call 99 [.ref b, v0] h).getD (none, h)).2 := by
  obtain ⟨⟨r, h'⟩, hv⟩ := Option.isSome_iff_exists.mp hc
  rw [hv]
  exact je_virt (y := 99) (as := [v0]) D132_39 rfl (by decide) (by decide) rfl hcl hw hv
theorem D132_42 : decode (jt_code 132) 42 = .ok (.i2l, 1) := by decide +kernel
theorem E132_42 {call : jv_F} {l0 l1 l2 l3 : Option Value} {x : Int32} {st : List Value} {h : jv_H} : jv_ev call 132 42 [l0, l1, l2, l3] (.int x :: st) h = jv_ev call 132 43 [l0, l1, l2, l3] (.long x.toInt64 :: st) h := je_i2l D132_42 rfl
theorem D132_43 : decode (jt_code 132) 43 = .ok (.lreturn, 1) := by decide +kernel
theorem E132_43 {call : jv_F} {l0 l1 l2 l3 : Option Value} {v : Int64} {h : jv_H} : jv_ev call 132 43 [l0, l1, l2, l3] [.long v] h = some (some (.long v), h) := je_lret D132_43 rfl
/-! method 133: DrumMachine.word -/
theorem N133 {d : Nat} {b : Nat} {a0 : Int32} {a1 : Int32} {h : jv_H} : jv_run (d + 1) 133 [.ref b, .int a0, .int a1] h = jv_ev (jv_run d) 133 0 [some (.ref b), some (.int a0), some (.int a1), none] [] h := jv_run_eq (Nat.le_of_ble_eq_true rfl) rfl
theorem D133_0 : decode (jt_code 133) 0 = .ok (.aload_n 0, 1) := by decide +kernel
theorem E133_0 {call : jv_F} {l1 l2 l3 : Option Value} {a : Nat} {st : List Value} {h : jv_H} : jv_ev call 133 0 [some (.ref a), l1, l2, l3] st h = jv_ev call 133 1 [some (.ref a), l1, l2, l3] (.ref a :: st) h := je_aload_n (r := some a) D133_0 rfl rfl
theorem D133_1 : decode (jt_code 133) 1 = .ok (.iload_n 1, 1) := by decide +kernel
theorem E133_1 {call : jv_F} {l0 l2 l3 : Option Value} {x : Int32} {st : List Value} {h : jv_H} : jv_ev call 133 1 [l0, some (.int x), l2, l3] st h = jv_ev call 133 2 [l0, some (.int x), l2, l3] (.int x :: st) h := je_iload_n D133_1 rfl rfl
theorem D133_2 : decode (jt_code 133) 2 = .ok (.invokevirtual 109, 3) := by decide +kernel
theorem E133_2 {call : jv_F} {l0 l1 l2 l3 : Option Value} {b : Nat} {v0 : Value}  {st : List Value} {h : jv_H} (hw : jv_wide st = true) (hcl : jv_cl h b = some 6) (hc : (call 139 [.ref b, v0] h).isSome = true) : jv_ev call 133 2 [l0, l1, l2, l3] (v0 :: .ref b :: st) h = jv_ev call 133 5 [l0, l1, l2, l3] ((((call 139 [.ref b, v0] h).getD (none, h)).1).toList ++ st) ((call 139 [.ref b, v0] h).getD (none, h)).2 := by
  obtain ⟨⟨r, h'⟩, hv⟩ := Option.isSome_iff_exists.mp hc
  rw [hv]
  exact je_virt (y := 139) (as := [v0]) D133_2 rfl (by decide) (by decide) rfl hcl hw hv
theorem D133_5 : decode (jt_code 133) 5 = .ok (.astore_n 3, 1) := by decide +kernel
theorem E133_5 {call : jv_F} {l0 l1 l2 l3 : Option Value} {a : Nat} {st : List Value} {h : jv_H} (hk : ¬ jv_is2 (some l2) = true) : jv_ev call 133 5 [l0, l1, l2, l3] (.ref a :: st) h = jv_ev call 133 6 [l0, l1, l2, some (.ref a)] st h := je_astore_n (r := some a) D133_5 rfl (Nat.le_of_ble_eq_true rfl) (by show jv_st1 _ 3 _ = _; simp only [jv_st1, jv_kill, List.getElem?_cons_succ, List.getElem?_cons_zero, hk, if_false]; rfl)
theorem E133_5r {call : jv_F} {l0 l1 l2 l3 : Option Value} {r : Option Nat} {st : List Value} {h : jv_H} (hk : ¬ jv_is2 (some l2) = true) : jv_ev call 133 5 [l0, l1, l2, l3] (va_rf r :: st) h = jv_ev call 133 6 [l0, l1, l2, some (va_rf r)] st h := je_astore_n (r := r) D133_5 rfl (Nat.le_of_ble_eq_true rfl) (by show jv_st1 _ 3 _ = _; simp only [jv_st1, jv_kill, List.getElem?_cons_succ, List.getElem?_cons_zero, hk, if_false]; rfl)
theorem D133_6 : decode (jt_code 133) 6 = .ok (.aload_n 3, 1) := by decide +kernel
theorem E133_6 {call : jv_F} {l0 l1 l2 : Option Value} {a : Nat} {st : List Value} {h : jv_H} : jv_ev call 133 6 [l0, l1, l2, some (.ref a)] st h = jv_ev call 133 7 [l0, l1, l2, some (.ref a)] (.ref a :: st) h := je_aload_n (r := some a) D133_6 rfl rfl
theorem E133_6r {call : jv_F} {l0 l1 l2 : Option Value} {r : Option Nat} {st : List Value} {h : jv_H} : jv_ev call 133 6 [l0, l1, l2, some (va_rf r)] st h = jv_ev call 133 7 [l0, l1, l2, some (va_rf r)] (va_rf r :: st) h := je_aload_n (r := r) D133_6 rfl rfl
theorem D133_7 : decode (jt_code 133) 7 = .ok (.ifnull 10, 3) := by decide +kernel
theorem E133_7r {call : jv_F} {l0 l1 l2 l3 : Option Value} {x : Option Nat} {st : List Value} {h : jv_H} : jv_ev call 133 7 [l0, l1, l2, l3] (va_rf x :: st) h = if x = none then jv_ev call 133 17 [l0, l1, l2, l3] st h else jv_ev call 133 10 [l0, l1, l2, l3] st h := je_ifnull D133_7 (by decide) rfl
theorem E133_7 {call : jv_F} {l0 l1 l2 l3 : Option Value} {x : Nat} {st : List Value} {h : jv_H} : jv_ev call 133 7 [l0, l1, l2, l3] (.ref x :: st) h = jv_ev call 133 10 [l0, l1, l2, l3] st h := (je_ifnull (x := some x) (t := 17) D133_7 (by decide) rfl).trans (if_neg (by simp))
theorem D133_10 : decode (jt_code 133) 10 = .ok (.aload_n 3, 1) := by decide +kernel
theorem E133_10 {call : jv_F} {l0 l1 l2 : Option Value} {a : Nat} {st : List Value} {h : jv_H} : jv_ev call 133 10 [l0, l1, l2, some (.ref a)] st h = jv_ev call 133 11 [l0, l1, l2, some (.ref a)] (.ref a :: st) h := je_aload_n (r := some a) D133_10 rfl rfl
theorem E133_10r {call : jv_F} {l0 l1 l2 : Option Value} {r : Option Nat} {st : List Value} {h : jv_H} : jv_ev call 133 10 [l0, l1, l2, some (va_rf r)] st h = jv_ev call 133 11 [l0, l1, l2, some (va_rf r)] (va_rf r :: st) h := je_aload_n (r := r) D133_10 rfl rfl
theorem D133_11 : decode (jt_code 133) 11 = .ok (.getfield 113, 3) := by decide +kernel
theorem E133_11 {call : jv_F} {l0 l1 l2 l3 : Option Value} {a : Nat} {st : List Value} {h : jv_H} (hs : (jv_gf h a 4 12).isSome = true) : jv_ev call 133 11 [l0, l1, l2, l3] (.ref a :: st) h = jv_ev call 133 14 [l0, l1, l2, l3] ((jv_gf h a 4 12).getD .null :: st) h := by
  obtain ⟨v, hv⟩ := Option.isSome_iff_exists.mp hs
  rw [hv]
  exact je_get D133_11 rfl (by decide) hv
theorem D133_14 : decode (jt_code 133) 14 = .ok (.ifCond .eq 7, 3) := by decide +kernel
theorem E133_14 {call : jv_F} {l0 l1 l2 l3 : Option Value} {x : Int32} {st : List Value} {h : jv_H} : jv_ev call 133 14 [l0, l1, l2, l3] (.int x :: st) h = if x = 0 then jv_ev call 133 21 [l0, l1, l2, l3] st h else jv_ev call 133 17 [l0, l1, l2, l3] st h := je_ifc D133_14 (by decide) rfl rfl
theorem D133_17 : decode (jt_code 133) 17 = .ok (.lconst 0, 1) := by decide +kernel
theorem E133_17 {call : jv_F} {l0 l1 l2 l3 : Option Value}  {st : List Value} {h : jv_H} : jv_ev call 133 17 [l0, l1, l2, l3] st h = jv_ev call 133 18 [l0, l1, l2, l3] (.long 0 :: st) h := je_lconst D133_17 rfl (by decide)
theorem D133_18 : decode (jt_code 133) 18 = .ok (.goto 8, 3) := by decide +kernel
theorem E133_18 {call : jv_F} {l0 l1 l2 l3 : Option Value}  {st : List Value} {h : jv_H} : jv_ev call 133 18 [l0, l1, l2, l3] st h = jv_ev call 133 26 [l0, l1, l2, l3] st h := je_goto D133_18 (by decide)
theorem D133_21 : decode (jt_code 133) 21 = .ok (.aload_n 3, 1) := by decide +kernel
theorem E133_21 {call : jv_F} {l0 l1 l2 : Option Value} {a : Nat} {st : List Value} {h : jv_H} : jv_ev call 133 21 [l0, l1, l2, some (.ref a)] st h = jv_ev call 133 22 [l0, l1, l2, some (.ref a)] (.ref a :: st) h := je_aload_n (r := some a) D133_21 rfl rfl
theorem E133_21r {call : jv_F} {l0 l1 l2 : Option Value} {r : Option Nat} {st : List Value} {h : jv_H} : jv_ev call 133 21 [l0, l1, l2, some (va_rf r)] st h = jv_ev call 133 22 [l0, l1, l2, some (va_rf r)] (va_rf r :: st) h := je_aload_n (r := r) D133_21 rfl rfl
theorem D133_22 : decode (jt_code 133) 22 = .ok (.iload_n 2, 1) := by decide +kernel
theorem E133_22 {call : jv_F} {l0 l1 l3 : Option Value} {x : Int32} {st : List Value} {h : jv_H} : jv_ev call 133 22 [l0, l1, some (.int x), l3] st h = jv_ev call 133 23 [l0, l1, some (.int x), l3] (.int x :: st) h := je_iload_n D133_22 rfl rfl
theorem D133_23 : decode (jt_code 133) 23 = .ok (.invokevirtual 134, 3) := by decide +kernel
theorem E133_23 {call : jv_F} {l0 l1 l2 l3 : Option Value} {b : Nat} {v0 : Value}  {st : List Value} {h : jv_H} (hw : jv_wide st = true) (hcl : jv_cl h b = some 4) (hc : (call 97 [.ref b, v0] h).isSome = true) : jv_ev call 133 23 [l0, l1, l2, l3] (v0 :: .ref b :: st) h = jv_ev call 133 26 [l0, l1, l2, l3] ((((call 97 [.ref b, v0] h).getD (none, h)).1).toList ++ st) ((call 97 [.ref b, v0] h).getD (none, h)).2 := by
  obtain ⟨⟨r, h'⟩, hv⟩ := Option.isSome_iff_exists.mp hc
  rw [hv]
  exact je_virt (y := 97) (as := [v0]) D133_23 rfl (by decide) (by decide) rfl hcl hw hv
theorem D133_26 : decode (jt_code 133) 26 = .ok (.lreturn, 1) := by decide +kernel
theorem E133_26 {call : jv_F} {l0 l1 l2 l3 : Option Value} {v : Int64} {h : jv_H} : jv_ev call 133 26 [l0, l1, l2, l3] [.long v] h = some (some (.long v), h) := je_lret D133_26 rfl
/-! method 134: DrumMachine.clock -/
theorem N134 {d : Nat} {b : Nat} {h : jv_H} : jv_run (d + 1) 134 [.ref b] h = jv_ev (jv_run d) 134 0 [some (.ref b)] [] h := jv_run_eq (Nat.le_of_ble_eq_true rfl) rfl
theorem D134_0 : decode (jt_code 134) 0 = .ok (.aload_n 0, 1) := by decide +kernel
theorem E134_0 {call : jv_F} {a : Nat} {st : List Value} {h : jv_H} : jv_ev call 134 0 [some (.ref a)] st h = jv_ev call 134 1 [some (.ref a)] (.ref a :: st) h := je_aload_n (r := some a) D134_0 rfl rfl
theorem D134_1 : decode (jt_code 134) 1 = .ok (.getfield 49, 3) := by decide +kernel
theorem E134_1 {call : jv_F} {l0 : Option Value} {a : Nat} {st : List Value} {h : jv_H} (hs : (jv_gf h a 6 8).isSome = true) : jv_ev call 134 1 [l0] (.ref a :: st) h = jv_ev call 134 4 [l0] ((jv_gf h a 6 8).getD .null :: st) h := by
  obtain ⟨v, hv⟩ := Option.isSome_iff_exists.mp hs
  rw [hv]
  exact je_get D134_1 rfl (by decide) hv
theorem D134_4 : decode (jt_code 134) 4 = .ok (.ireturn, 1) := by decide +kernel
theorem E134_4 {call : jv_F} {l0 : Option Value} {v : Int32} {h : jv_H} : jv_ev call 134 4 [l0] [.int v] h = some (some (.int v), h) := je_iret (ty := .int) D134_4 rfl rfl rfl
/-! method 135: DrumMachine.told -/
theorem N135 {d : Nat} {b : Nat} {a0 : Int32} {h : jv_H} : jv_run (d + 1) 135 [.ref b, .int a0] h = jv_ev (jv_run d) 135 0 [some (.ref b), some (.int a0)] [] h := jv_run_eq (Nat.le_of_ble_eq_true rfl) rfl
theorem D135_0 : decode (jt_code 135) 0 = .ok (.iload_n 1, 1) := by decide +kernel
theorem E135_0 {call : jv_F} {l0 : Option Value} {x : Int32} {st : List Value} {h : jv_H} : jv_ev call 135 0 [l0, some (.int x)] st h = jv_ev call 135 1 [l0, some (.int x)] (.int x :: st) h := je_iload_n D135_0 rfl rfl
theorem D135_1 : decode (jt_code 135) 1 = .ok (.tableswitch 106 0 7 #[47, 55, 63, 68, 73, 81, 86, 101], 47) := by decide +kernel
theorem E135_1 {call : jv_F} {l0 l1 : Option Value} {x : Int32} {st : List Value} {h : jv_H} : jv_ev call 135 1 [l0, l1] (.int x :: st) h = if x = (nI 0) then jv_ev call 135 48 [l0, l1] st h else (if x = (nI 1) then jv_ev call 135 56 [l0, l1] st h else (if x = (nI 2) then jv_ev call 135 64 [l0, l1] st h else (if x = (nI 3) then jv_ev call 135 69 [l0, l1] st h else (if x = (nI 4) then jv_ev call 135 74 [l0, l1] st h else (if x = (nI 5) then jv_ev call 135 82 [l0, l1] st h else (if x = (nI 6) then jv_ev call 135 87 [l0, l1] st h else (if x = (nI 7) then jv_ev call 135 102 [l0, l1] st h else (jv_ev call 135 107 [l0, l1] st h)))))))) := by
  by_cases h0 : x = nI 0
  · subst h0
    exact je_next D135_1 rfl
  by_cases h1 : x = nI 1
  · subst h1
    exact je_next D135_1 rfl
  by_cases h2 : x = nI 2
  · subst h2
    exact je_next D135_1 rfl
  by_cases h3 : x = nI 3
  · subst h3
    exact je_next D135_1 rfl
  by_cases h4 : x = nI 4
  · subst h4
    exact je_next D135_1 rfl
  by_cases h5 : x = nI 5
  · subst h5
    exact je_next D135_1 rfl
  by_cases h6 : x = nI 6
  · subst h6
    exact je_next D135_1 rfl
  by_cases h7 : x = nI 7
  · subst h7
    exact je_next D135_1 rfl
  rw [if_neg h0]
  rw [if_neg h1]
  rw [if_neg h2]
  rw [if_neg h3]
  rw [if_neg h4]
  rw [if_neg h5]
  rw [if_neg h6]
  rw [if_neg h7]
  refine je_next D135_1 ?_
  simp only [jv_ins]
  rw [if_pos (show x.toInt < 0 ∨ 7 < x.toInt from jv_tab (lo := 0) (hi := 7) (fun k hk1 hk2 => by
    rcases (show k = 0 ∨ k = 1 ∨ k = 2 ∨ k = 3 ∨ k = 4 ∨ k = 5 ∨ k = 6 ∨ k = 7 by omega) with rfl | rfl | rfl | rfl | rfl | rfl | rfl | rfl
    · exact h0
    · exact h1
    · exact h2
    · exact h3
    · exact h4
    · exact h5
    · exact h6
    · exact h7) (by decide))]
  exact jv_go_eq (by decide)
theorem D135_48 : decode (jt_code 135) 48 = .ok (.aload_n 0, 1) := by decide +kernel
theorem E135_48 {call : jv_F} {l1 : Option Value} {a : Nat} {st : List Value} {h : jv_H} : jv_ev call 135 48 [some (.ref a), l1] st h = jv_ev call 135 49 [some (.ref a), l1] (.ref a :: st) h := je_aload_n (r := some a) D135_48 rfl rfl
theorem D135_49 : decode (jt_code 135) 49 = .ok (.getfield 26, 3) := by decide +kernel
theorem E135_49 {call : jv_F} {l0 l1 : Option Value} {a : Nat} {st : List Value} {h : jv_H} (hs : (jv_gf h a 6 2).isSome = true) : jv_ev call 135 49 [l0, l1] (.ref a :: st) h = jv_ev call 135 52 [l0, l1] ((jv_gf h a 6 2).getD .null :: st) h := by
  obtain ⟨v, hv⟩ := Option.isSome_iff_exists.mp hs
  rw [hv]
  exact je_get D135_49 rfl (by decide) hv
theorem D135_52 : decode (jt_code 135) 52 = .ok (.getfield 137, 3) := by decide +kernel
theorem E135_52 {call : jv_F} {l0 l1 : Option Value} {a : Nat} {st : List Value} {h : jv_H} (hs : (jv_gf h a 3 6).isSome = true) : jv_ev call 135 52 [l0, l1] (.ref a :: st) h = jv_ev call 135 55 [l0, l1] ((jv_gf h a 3 6).getD .null :: st) h := by
  obtain ⟨v, hv⟩ := Option.isSome_iff_exists.mp hs
  rw [hv]
  exact je_get D135_52 rfl (by decide) hv
theorem D135_55 : decode (jt_code 135) 55 = .ok (.ireturn, 1) := by decide +kernel
theorem E135_55 {call : jv_F} {l0 l1 : Option Value} {v : Int32} {h : jv_H} : jv_ev call 135 55 [l0, l1] [.int v] h = some (some (.int v), h) := je_iret (ty := .int) D135_55 rfl rfl rfl
theorem D135_56 : decode (jt_code 135) 56 = .ok (.aload_n 0, 1) := by decide +kernel
theorem E135_56 {call : jv_F} {l1 : Option Value} {a : Nat} {st : List Value} {h : jv_H} : jv_ev call 135 56 [some (.ref a), l1] st h = jv_ev call 135 57 [some (.ref a), l1] (.ref a :: st) h := je_aload_n (r := some a) D135_56 rfl rfl
theorem D135_57 : decode (jt_code 135) 57 = .ok (.getfield 26, 3) := by decide +kernel
theorem E135_57 {call : jv_F} {l0 l1 : Option Value} {a : Nat} {st : List Value} {h : jv_H} (hs : (jv_gf h a 6 2).isSome = true) : jv_ev call 135 57 [l0, l1] (.ref a :: st) h = jv_ev call 135 60 [l0, l1] ((jv_gf h a 6 2).getD .null :: st) h := by
  obtain ⟨v, hv⟩ := Option.isSome_iff_exists.mp hs
  rw [hv]
  exact je_get D135_57 rfl (by decide) hv
theorem D135_60 : decode (jt_code 135) 60 = .ok (.getfield 140, 3) := by decide +kernel
theorem E135_60 {call : jv_F} {l0 l1 : Option Value} {a : Nat} {st : List Value} {h : jv_H} (hs : (jv_gf h a 3 7).isSome = true) : jv_ev call 135 60 [l0, l1] (.ref a :: st) h = jv_ev call 135 63 [l0, l1] ((jv_gf h a 3 7).getD .null :: st) h := by
  obtain ⟨v, hv⟩ := Option.isSome_iff_exists.mp hs
  rw [hv]
  exact je_get D135_60 rfl (by decide) hv
theorem D135_63 : decode (jt_code 135) 63 = .ok (.ireturn, 1) := by decide +kernel
theorem E135_63 {call : jv_F} {l0 l1 : Option Value} {v : Int32} {h : jv_H} : jv_ev call 135 63 [l0, l1] [.int v] h = some (some (.int v), h) := je_iret (ty := .int) D135_63 rfl rfl rfl
theorem D135_64 : decode (jt_code 135) 64 = .ok (.aload_n 0, 1) := by decide +kernel
theorem E135_64 {call : jv_F} {l1 : Option Value} {a : Nat} {st : List Value} {h : jv_H} : jv_ev call 135 64 [some (.ref a), l1] st h = jv_ev call 135 65 [some (.ref a), l1] (.ref a :: st) h := je_aload_n (r := some a) D135_64 rfl rfl
theorem D135_65 : decode (jt_code 135) 65 = .ok (.getfield 52, 3) := by decide +kernel
theorem E135_65 {call : jv_F} {l0 l1 : Option Value} {a : Nat} {st : List Value} {h : jv_H} (hs : (jv_gf h a 6 9).isSome = true) : jv_ev call 135 65 [l0, l1] (.ref a :: st) h = jv_ev call 135 68 [l0, l1] ((jv_gf h a 6 9).getD .null :: st) h := by
  obtain ⟨v, hv⟩ := Option.isSome_iff_exists.mp hs
  rw [hv]
  exact je_get D135_65 rfl (by decide) hv
theorem D135_68 : decode (jt_code 135) 68 = .ok (.ireturn, 1) := by decide +kernel
theorem E135_68 {call : jv_F} {l0 l1 : Option Value} {v : Int32} {h : jv_H} : jv_ev call 135 68 [l0, l1] [.int v] h = some (some (.int v), h) := je_iret (ty := .int) D135_68 rfl rfl rfl
theorem D135_69 : decode (jt_code 135) 69 = .ok (.aload_n 0, 1) := by decide +kernel
theorem E135_69 {call : jv_F} {l1 : Option Value} {a : Nat} {st : List Value} {h : jv_H} : jv_ev call 135 69 [some (.ref a), l1] st h = jv_ev call 135 70 [some (.ref a), l1] (.ref a :: st) h := je_aload_n (r := some a) D135_69 rfl rfl
theorem D135_70 : decode (jt_code 135) 70 = .ok (.getfield 55, 3) := by decide +kernel
theorem E135_70 {call : jv_F} {l0 l1 : Option Value} {a : Nat} {st : List Value} {h : jv_H} (hs : (jv_gf h a 6 10).isSome = true) : jv_ev call 135 70 [l0, l1] (.ref a :: st) h = jv_ev call 135 73 [l0, l1] ((jv_gf h a 6 10).getD .null :: st) h := by
  obtain ⟨v, hv⟩ := Option.isSome_iff_exists.mp hs
  rw [hv]
  exact je_get D135_70 rfl (by decide) hv
theorem D135_73 : decode (jt_code 135) 73 = .ok (.ireturn, 1) := by decide +kernel
theorem E135_73 {call : jv_F} {l0 l1 : Option Value} {v : Int32} {h : jv_H} : jv_ev call 135 73 [l0, l1] [.int v] h = some (some (.int v), h) := je_iret (ty := .int) D135_73 rfl rfl rfl
theorem D135_74 : decode (jt_code 135) 74 = .ok (.aload_n 0, 1) := by decide +kernel
theorem E135_74 {call : jv_F} {l1 : Option Value} {a : Nat} {st : List Value} {h : jv_H} : jv_ev call 135 74 [some (.ref a), l1] st h = jv_ev call 135 75 [some (.ref a), l1] (.ref a :: st) h := je_aload_n (r := some a) D135_74 rfl rfl
theorem D135_75 : decode (jt_code 135) 75 = .ok (.getfield 19, 3) := by decide +kernel
theorem E135_75 {call : jv_F} {l0 l1 : Option Value} {a : Nat} {st : List Value} {h : jv_H} (hs : (jv_gf h a 6 1).isSome = true) : jv_ev call 135 75 [l0, l1] (.ref a :: st) h = jv_ev call 135 78 [l0, l1] ((jv_gf h a 6 1).getD .null :: st) h := by
  obtain ⟨v, hv⟩ := Option.isSome_iff_exists.mp hs
  rw [hv]
  exact je_get D135_75 rfl (by decide) hv
theorem D135_78 : decode (jt_code 135) 78 = .ok (.getfield 143, 3) := by decide +kernel
theorem E135_78 {call : jv_F} {l0 l1 : Option Value} {a : Nat} {st : List Value} {h : jv_H} (hs : (jv_gf h a 2 3).isSome = true) : jv_ev call 135 78 [l0, l1] (.ref a :: st) h = jv_ev call 135 81 [l0, l1] ((jv_gf h a 2 3).getD .null :: st) h := by
  obtain ⟨v, hv⟩ := Option.isSome_iff_exists.mp hs
  rw [hv]
  exact je_get D135_78 rfl (by decide) hv
theorem D135_81 : decode (jt_code 135) 81 = .ok (.ireturn, 1) := by decide +kernel
theorem E135_81 {call : jv_F} {l0 l1 : Option Value} {v : Int32} {h : jv_H} : jv_ev call 135 81 [l0, l1] [.int v] h = some (some (.int v), h) := je_iret (ty := .int) D135_81 rfl rfl rfl
theorem D135_82 : decode (jt_code 135) 82 = .ok (.aload_n 0, 1) := by decide +kernel
theorem E135_82 {call : jv_F} {l1 : Option Value} {a : Nat} {st : List Value} {h : jv_H} : jv_ev call 135 82 [some (.ref a), l1] st h = jv_ev call 135 83 [some (.ref a), l1] (.ref a :: st) h := je_aload_n (r := some a) D135_82 rfl rfl
theorem D135_83 : decode (jt_code 135) 83 = .ok (.getfield 43, 3) := by decide +kernel
theorem E135_83 {call : jv_F} {l0 l1 : Option Value} {a : Nat} {st : List Value} {h : jv_H} (hs : (jv_gf h a 6 6).isSome = true) : jv_ev call 135 83 [l0, l1] (.ref a :: st) h = jv_ev call 135 86 [l0, l1] ((jv_gf h a 6 6).getD .null :: st) h := by
  obtain ⟨v, hv⟩ := Option.isSome_iff_exists.mp hs
  rw [hv]
  exact je_get D135_83 rfl (by decide) hv
theorem D135_86 : decode (jt_code 135) 86 = .ok (.ireturn, 1) := by decide +kernel
theorem E135_86 {call : jv_F} {l0 l1 : Option Value} {v : Int32} {h : jv_H} : jv_ev call 135 86 [l0, l1] [.int v] h = some (some (.int v), h) := je_iret (ty := .int) D135_86 rfl rfl rfl
theorem D135_87 : decode (jt_code 135) 87 = .ok (.aload_n 0, 1) := by decide +kernel
theorem E135_87 {call : jv_F} {l1 : Option Value} {a : Nat} {st : List Value} {h : jv_H} : jv_ev call 135 87 [some (.ref a), l1] st h = jv_ev call 135 88 [some (.ref a), l1] (.ref a :: st) h := je_aload_n (r := some a) D135_87 rfl rfl
theorem D135_88 : decode (jt_code 135) 88 = .ok (.getfield 40, 3) := by decide +kernel
theorem E135_88 {call : jv_F} {l0 l1 : Option Value} {a : Nat} {st : List Value} {h : jv_H} (hs : (jv_gf h a 6 5).isSome = true) : jv_ev call 135 88 [l0, l1] (.ref a :: st) h = jv_ev call 135 91 [l0, l1] ((jv_gf h a 6 5).getD .null :: st) h := by
  obtain ⟨v, hv⟩ := Option.isSome_iff_exists.mp hs
  rw [hv]
  exact je_get D135_88 rfl (by decide) hv
theorem D135_91 : decode (jt_code 135) 91 = .ok (.aload_n 0, 1) := by decide +kernel
theorem E135_91 {call : jv_F} {l1 : Option Value} {a : Nat} {st : List Value} {h : jv_H} : jv_ev call 135 91 [some (.ref a), l1] st h = jv_ev call 135 92 [some (.ref a), l1] (.ref a :: st) h := je_aload_n (r := some a) D135_91 rfl rfl
theorem D135_92 : decode (jt_code 135) 92 = .ok (.getfield 19, 3) := by decide +kernel
theorem E135_92 {call : jv_F} {l0 l1 : Option Value} {a : Nat} {st : List Value} {h : jv_H} (hs : (jv_gf h a 6 1).isSome = true) : jv_ev call 135 92 [l0, l1] (.ref a :: st) h = jv_ev call 135 95 [l0, l1] ((jv_gf h a 6 1).getD .null :: st) h := by
  obtain ⟨v, hv⟩ := Option.isSome_iff_exists.mp hs
  rw [hv]
  exact je_get D135_92 rfl (by decide) hv
theorem D135_95 : decode (jt_code 135) 95 = .ok (.invokevirtual 146, 3) := by decide +kernel
theorem E135_95 {call : jv_F} {l0 l1 : Option Value} {b : Nat}  {st : List Value} {h : jv_H} (hw : jv_wide st = true) (hcl : jv_cl h b = some 2) (hc : (call 68 [.ref b] h).isSome = true) : jv_ev call 135 95 [l0, l1] (.ref b :: st) h = jv_ev call 135 98 [l0, l1] ((((call 68 [.ref b] h).getD (none, h)).1).toList ++ st) ((call 68 [.ref b] h).getD (none, h)).2 := by
  obtain ⟨⟨r, h'⟩, hv⟩ := Option.isSome_iff_exists.mp hc
  rw [hv]
  exact je_virt (y := 68) (as := []) D135_95 rfl (by decide) (by decide) rfl hcl hw hv
theorem D135_98 : decode (jt_code 135) 98 = .ok (.invokestatic 150, 3) := by decide +kernel
theorem E135_98 {call : jv_F} {l0 l1 : Option Value} {v0 v1 : Value}  {st : List Value} {h : jv_H} (hw : jv_wide st = true) (hc : (call 157 [v0, v1] h).isSome = true) : jv_ev call 135 98 [l0, l1] (v1 :: v0 :: st) h = jv_ev call 135 101 [l0, l1] ((((call 157 [v0, v1] h).getD (none, h)).1).toList ++ st) ((call 157 [v0, v1] h).getD (none, h)).2 := by
  obtain ⟨⟨r, h'⟩, hv⟩ := Option.isSome_iff_exists.mp hc
  rw [hv]
  exact je_stat (y := 157) (as := [v0, v1]) D135_98 rfl (by decide) (by decide) rfl hw hv
theorem D135_101 : decode (jt_code 135) 101 = .ok (.ireturn, 1) := by decide +kernel
theorem E135_101 {call : jv_F} {l0 l1 : Option Value} {v : Int32} {h : jv_H} : jv_ev call 135 101 [l0, l1] [.int v] h = some (some (.int v), h) := je_iret (ty := .int) D135_101 rfl rfl rfl
theorem D135_102 : decode (jt_code 135) 102 = .ok (.aload_n 0, 1) := by decide +kernel
theorem E135_102 {call : jv_F} {l1 : Option Value} {a : Nat} {st : List Value} {h : jv_H} : jv_ev call 135 102 [some (.ref a), l1] st h = jv_ev call 135 103 [some (.ref a), l1] (.ref a :: st) h := je_aload_n (r := some a) D135_102 rfl rfl
theorem D135_103 : decode (jt_code 135) 103 = .ok (.getfield 46, 3) := by decide +kernel
theorem E135_103 {call : jv_F} {l0 l1 : Option Value} {a : Nat} {st : List Value} {h : jv_H} (hs : (jv_gf h a 6 7).isSome = true) : jv_ev call 135 103 [l0, l1] (.ref a :: st) h = jv_ev call 135 106 [l0, l1] ((jv_gf h a 6 7).getD .null :: st) h := by
  obtain ⟨v, hv⟩ := Option.isSome_iff_exists.mp hs
  rw [hv]
  exact je_get D135_103 rfl (by decide) hv
theorem D135_106 : decode (jt_code 135) 106 = .ok (.ireturn, 1) := by decide +kernel
theorem E135_106 {call : jv_F} {l0 l1 : Option Value} {v : Int32} {h : jv_H} : jv_ev call 135 106 [l0, l1] [.int v] h = some (some (.int v), h) := je_iret (ty := .int) D135_106 rfl rfl rfl
theorem D135_107 : decode (jt_code 135) 107 = .ok (.iconst 0, 1) := by decide +kernel
theorem E135_107 {call : jv_F} {l0 l1 : Option Value}  {st : List Value} {h : jv_H} : jv_ev call 135 107 [l0, l1] st h = jv_ev call 135 108 [l0, l1] (.int (nI 0) :: st) h := je_iconst D135_107 rfl (by decide)
theorem D135_108 : decode (jt_code 135) 108 = .ok (.ireturn, 1) := by decide +kernel
theorem E135_108 {call : jv_F} {l0 l1 : Option Value} {v : Int32} {h : jv_H} : jv_ev call 135 108 [l0, l1] [.int v] h = some (some (.int v), h) := je_iret (ty := .int) D135_108 rfl rfl rfl
/-! method 136: DrumMachine.frame -/
theorem N136 {d : Nat} {b : Nat} {a0 : Int32} {a1 : Int32} {h : jv_H} : jv_run (d + 1) 136 [.ref b, .int a0, .int a1] h = jv_ev (jv_run d) 136 0 [some (.ref b), some (.int a0), some (.int a1), none] [] h := jv_run_eq (Nat.le_of_ble_eq_true rfl) rfl
theorem D136_0 : decode (jt_code 136) 0 = .ok (.iload_n 1, 1) := by decide +kernel
theorem E136_0 {call : jv_F} {l0 l2 l3 : Option Value} {x : Int32} {st : List Value} {h : jv_H} : jv_ev call 136 0 [l0, some (.int x), l2, l3] st h = jv_ev call 136 1 [l0, some (.int x), l2, l3] (.int x :: st) h := je_iload_n D136_0 rfl rfl
theorem D136_1 : decode (jt_code 136) 1 = .ok (.ifCond .lt 23, 3) := by decide +kernel
theorem E136_1 {call : jv_F} {l0 l1 l2 l3 : Option Value} {x : Int32} {st : List Value} {h : jv_H} : jv_ev call 136 1 [l0, l1, l2, l3] (.int x :: st) h = if x < 0 then jv_ev call 136 24 [l0, l1, l2, l3] st h else jv_ev call 136 4 [l0, l1, l2, l3] st h := je_ifc D136_1 (by decide) rfl rfl
theorem D136_4 : decode (jt_code 136) 4 = .ok (.iload_n 1, 1) := by decide +kernel
theorem E136_4 {call : jv_F} {l0 l2 l3 : Option Value} {x : Int32} {st : List Value} {h : jv_H} : jv_ev call 136 4 [l0, some (.int x), l2, l3] st h = jv_ev call 136 5 [l0, some (.int x), l2, l3] (.int x :: st) h := je_iload_n D136_4 rfl rfl
theorem D136_5 : decode (jt_code 136) 5 = .ok (.aload_n 0, 1) := by decide +kernel
theorem E136_5 {call : jv_F} {l1 l2 l3 : Option Value} {a : Nat} {st : List Value} {h : jv_H} : jv_ev call 136 5 [some (.ref a), l1, l2, l3] st h = jv_ev call 136 6 [some (.ref a), l1, l2, l3] (.ref a :: st) h := je_aload_n (r := some a) D136_5 rfl rfl
theorem D136_6 : decode (jt_code 136) 6 = .ok (.getfield 19, 3) := by decide +kernel
theorem E136_6 {call : jv_F} {l0 l1 l2 l3 : Option Value} {a : Nat} {st : List Value} {h : jv_H} (hs : (jv_gf h a 6 1).isSome = true) : jv_ev call 136 6 [l0, l1, l2, l3] (.ref a :: st) h = jv_ev call 136 9 [l0, l1, l2, l3] ((jv_gf h a 6 1).getD .null :: st) h := by
  obtain ⟨v, hv⟩ := Option.isSome_iff_exists.mp hs
  rw [hv]
  exact je_get D136_6 rfl (by decide) hv
theorem D136_9 : decode (jt_code 136) 9 = .ok (.getfield 156, 3) := by decide +kernel
theorem E136_9 {call : jv_F} {l0 l1 l2 l3 : Option Value} {a : Nat} {st : List Value} {h : jv_H} (hs : (jv_gf h a 2 1).isSome = true) : jv_ev call 136 9 [l0, l1, l2, l3] (.ref a :: st) h = jv_ev call 136 12 [l0, l1, l2, l3] ((jv_gf h a 2 1).getD .null :: st) h := by
  obtain ⟨v, hv⟩ := Option.isSome_iff_exists.mp hs
  rw [hv]
  exact je_get D136_9 rfl (by decide) hv
theorem D136_12 : decode (jt_code 136) 12 = .ok (.if_icmp .ge 12, 3) := by decide +kernel
theorem E136_12 {call : jv_F} {l0 l1 l2 l3 : Option Value} {x y : Int32} {st : List Value} {h : jv_H} : jv_ev call 136 12 [l0, l1, l2, l3] (.int y :: .int x :: st) h = if y ≤ x then jv_ev call 136 24 [l0, l1, l2, l3] st h else jv_ev call 136 15 [l0, l1, l2, l3] st h := je_icmp D136_12 (by decide) rfl rfl
theorem D136_15 : decode (jt_code 136) 15 = .ok (.iload_n 2, 1) := by decide +kernel
theorem E136_15 {call : jv_F} {l0 l1 l3 : Option Value} {x : Int32} {st : List Value} {h : jv_H} : jv_ev call 136 15 [l0, l1, some (.int x), l3] st h = jv_ev call 136 16 [l0, l1, some (.int x), l3] (.int x :: st) h := je_iload_n D136_15 rfl rfl
theorem D136_16 : decode (jt_code 136) 16 = .ok (.ifCond .lt 8, 3) := by decide +kernel
theorem E136_16 {call : jv_F} {l0 l1 l2 l3 : Option Value} {x : Int32} {st : List Value} {h : jv_H} : jv_ev call 136 16 [l0, l1, l2, l3] (.int x :: st) h = if x < 0 then jv_ev call 136 24 [l0, l1, l2, l3] st h else jv_ev call 136 19 [l0, l1, l2, l3] st h := je_ifc D136_16 (by decide) rfl rfl
theorem D136_19 : decode (jt_code 136) 19 = .ok (.iload_n 2, 1) := by decide +kernel
theorem E136_19 {call : jv_F} {l0 l1 l3 : Option Value} {x : Int32} {st : List Value} {h : jv_H} : jv_ev call 136 19 [l0, l1, some (.int x), l3] st h = jv_ev call 136 20 [l0, l1, some (.int x), l3] (.int x :: st) h := je_iload_n D136_19 rfl rfl
theorem D136_20 : decode (jt_code 136) 20 = .ok (.iconst 4, 1) := by decide +kernel
theorem E136_20 {call : jv_F} {l0 l1 l2 l3 : Option Value}  {st : List Value} {h : jv_H} : jv_ev call 136 20 [l0, l1, l2, l3] st h = jv_ev call 136 21 [l0, l1, l2, l3] (.int (nI 4) :: st) h := je_iconst D136_20 rfl (by decide)
theorem D136_21 : decode (jt_code 136) 21 = .ok (.if_icmp .le 5, 3) := by decide +kernel
theorem E136_21 {call : jv_F} {l0 l1 l2 l3 : Option Value} {x y : Int32} {st : List Value} {h : jv_H} : jv_ev call 136 21 [l0, l1, l2, l3] (.int y :: .int x :: st) h = if x ≤ y then jv_ev call 136 26 [l0, l1, l2, l3] st h else jv_ev call 136 24 [l0, l1, l2, l3] st h := je_icmp D136_21 (by decide) rfl rfl
theorem D136_24 : decode (jt_code 136) 24 = .ok (.iconst (-1), 1) := by decide +kernel
theorem E136_24 {call : jv_F} {l0 l1 l2 l3 : Option Value}  {st : List Value} {h : jv_H} : jv_ev call 136 24 [l0, l1, l2, l3] st h = jv_ev call 136 25 [l0, l1, l2, l3] (.int (-1) :: st) h := je_iconst D136_24 rfl (by decide)
theorem D136_25 : decode (jt_code 136) 25 = .ok (.ireturn, 1) := by decide +kernel
theorem E136_25 {call : jv_F} {l0 l1 l2 l3 : Option Value} {v : Int32} {h : jv_H} : jv_ev call 136 25 [l0, l1, l2, l3] [.int v] h = some (some (.int v), h) := je_iret (ty := .int) D136_25 rfl rfl rfl
theorem D136_26 : decode (jt_code 136) 26 = .ok (.aload_n 0, 1) := by decide +kernel
theorem E136_26 {call : jv_F} {l1 l2 l3 : Option Value} {a : Nat} {st : List Value} {h : jv_H} : jv_ev call 136 26 [some (.ref a), l1, l2, l3] st h = jv_ev call 136 27 [some (.ref a), l1, l2, l3] (.ref a :: st) h := je_aload_n (r := some a) D136_26 rfl rfl
theorem D136_27 : decode (jt_code 136) 27 = .ok (.getfield 19, 3) := by decide +kernel
theorem E136_27 {call : jv_F} {l0 l1 l2 l3 : Option Value} {a : Nat} {st : List Value} {h : jv_H} (hs : (jv_gf h a 6 1).isSome = true) : jv_ev call 136 27 [l0, l1, l2, l3] (.ref a :: st) h = jv_ev call 136 30 [l0, l1, l2, l3] ((jv_gf h a 6 1).getD .null :: st) h := by
  obtain ⟨v, hv⟩ := Option.isSome_iff_exists.mp hs
  rw [hv]
  exact je_get D136_27 rfl (by decide) hv
theorem D136_30 : decode (jt_code 136) 30 = .ok (.iload_n 1, 1) := by decide +kernel
theorem E136_30 {call : jv_F} {l0 l2 l3 : Option Value} {x : Int32} {st : List Value} {h : jv_H} : jv_ev call 136 30 [l0, some (.int x), l2, l3] st h = jv_ev call 136 31 [l0, some (.int x), l2, l3] (.int x :: st) h := je_iload_n D136_30 rfl rfl
theorem D136_31 : decode (jt_code 136) 31 = .ok (.invokevirtual 159, 3) := by decide +kernel
theorem E136_31 {call : jv_F} {l0 l1 l2 l3 : Option Value} {b : Nat} {v0 : Value}  {st : List Value} {h : jv_H} (hw : jv_wide st = true) (hcl : jv_cl h b = some 2) (hc : (call 69 [.ref b, v0] h).isSome = true) : jv_ev call 136 31 [l0, l1, l2, l3] (v0 :: .ref b :: st) h = jv_ev call 136 34 [l0, l1, l2, l3] ((((call 69 [.ref b, v0] h).getD (none, h)).1).toList ++ st) ((call 69 [.ref b, v0] h).getD (none, h)).2 := by
  obtain ⟨⟨r, h'⟩, hv⟩ := Option.isSome_iff_exists.mp hc
  rw [hv]
  exact je_virt (y := 69) (as := [v0]) D136_31 rfl (by decide) (by decide) rfl hcl hw hv
theorem D136_34 : decode (jt_code 136) 34 = .ok (.astore_n 3, 1) := by decide +kernel
theorem E136_34 {call : jv_F} {l0 l1 l2 l3 : Option Value} {a : Nat} {st : List Value} {h : jv_H} (hk : ¬ jv_is2 (some l2) = true) : jv_ev call 136 34 [l0, l1, l2, l3] (.ref a :: st) h = jv_ev call 136 35 [l0, l1, l2, some (.ref a)] st h := je_astore_n (r := some a) D136_34 rfl (Nat.le_of_ble_eq_true rfl) (by show jv_st1 _ 3 _ = _; simp only [jv_st1, jv_kill, List.getElem?_cons_succ, List.getElem?_cons_zero, hk, if_false]; rfl)
theorem E136_34r {call : jv_F} {l0 l1 l2 l3 : Option Value} {r : Option Nat} {st : List Value} {h : jv_H} (hk : ¬ jv_is2 (some l2) = true) : jv_ev call 136 34 [l0, l1, l2, l3] (va_rf r :: st) h = jv_ev call 136 35 [l0, l1, l2, some (va_rf r)] st h := je_astore_n (r := r) D136_34 rfl (Nat.le_of_ble_eq_true rfl) (by show jv_st1 _ 3 _ = _; simp only [jv_st1, jv_kill, List.getElem?_cons_succ, List.getElem?_cons_zero, hk, if_false]; rfl)
theorem D136_35 : decode (jt_code 136) 35 = .ok (.aload_n 3, 1) := by decide +kernel
theorem E136_35 {call : jv_F} {l0 l1 l2 : Option Value} {a : Nat} {st : List Value} {h : jv_H} : jv_ev call 136 35 [l0, l1, l2, some (.ref a)] st h = jv_ev call 136 36 [l0, l1, l2, some (.ref a)] (.ref a :: st) h := je_aload_n (r := some a) D136_35 rfl rfl
theorem E136_35r {call : jv_F} {l0 l1 l2 : Option Value} {r : Option Nat} {st : List Value} {h : jv_H} : jv_ev call 136 35 [l0, l1, l2, some (va_rf r)] st h = jv_ev call 136 36 [l0, l1, l2, some (va_rf r)] (va_rf r :: st) h := je_aload_n (r := r) D136_35 rfl rfl
theorem D136_36 : decode (jt_code 136) 36 = .ok (.ifnonnull 14, 3) := by decide +kernel
theorem E136_36r {call : jv_F} {l0 l1 l2 l3 : Option Value} {x : Option Nat} {st : List Value} {h : jv_H} : jv_ev call 136 36 [l0, l1, l2, l3] (va_rf x :: st) h = if x = none then jv_ev call 136 39 [l0, l1, l2, l3] st h else jv_ev call 136 50 [l0, l1, l2, l3] st h := je_ifnonnull D136_36 (by decide) rfl
theorem E136_36 {call : jv_F} {l0 l1 l2 l3 : Option Value} {x : Nat} {st : List Value} {h : jv_H} : jv_ev call 136 36 [l0, l1, l2, l3] (.ref x :: st) h = jv_ev call 136 50 [l0, l1, l2, l3] st h := (je_ifnonnull (x := some x) (t := 50) D136_36 (by decide) rfl).trans (if_neg (by simp))
theorem D136_39 : decode (jt_code 136) 39 = .ok (.iload_n 2, 1) := by decide +kernel
theorem E136_39 {call : jv_F} {l0 l1 l3 : Option Value} {x : Int32} {st : List Value} {h : jv_H} : jv_ev call 136 39 [l0, l1, some (.int x), l3] st h = jv_ev call 136 40 [l0, l1, some (.int x), l3] (.int x :: st) h := je_iload_n D136_39 rfl rfl
theorem D136_40 : decode (jt_code 136) 40 = .ok (.iconst 2, 1) := by decide +kernel
theorem E136_40 {call : jv_F} {l0 l1 l2 l3 : Option Value}  {st : List Value} {h : jv_H} : jv_ev call 136 40 [l0, l1, l2, l3] st h = jv_ev call 136 41 [l0, l1, l2, l3] (.int (nI 2) :: st) h := je_iconst D136_40 rfl (by decide)
theorem D136_41 : decode (jt_code 136) 41 = .ok (.if_icmp .ge 7, 3) := by decide +kernel
theorem E136_41 {call : jv_F} {l0 l1 l2 l3 : Option Value} {x y : Int32} {st : List Value} {h : jv_H} : jv_ev call 136 41 [l0, l1, l2, l3] (.int y :: .int x :: st) h = if y ≤ x then jv_ev call 136 48 [l0, l1, l2, l3] st h else jv_ev call 136 44 [l0, l1, l2, l3] st h := je_icmp D136_41 (by decide) rfl rfl
theorem D136_44 : decode (jt_code 136) 44 = .ok (.iconst (-1), 1) := by decide +kernel
theorem E136_44 {call : jv_F} {l0 l1 l2 l3 : Option Value}  {st : List Value} {h : jv_H} : jv_ev call 136 44 [l0, l1, l2, l3] st h = jv_ev call 136 45 [l0, l1, l2, l3] (.int (-1) :: st) h := je_iconst D136_44 rfl (by decide)
theorem D136_45 : decode (jt_code 136) 45 = .ok (.goto 4, 3) := by decide +kernel
theorem E136_45 {call : jv_F} {l0 l1 l2 l3 : Option Value}  {st : List Value} {h : jv_H} : jv_ev call 136 45 [l0, l1, l2, l3] st h = jv_ev call 136 49 [l0, l1, l2, l3] st h := je_goto D136_45 (by decide)
theorem D136_48 : decode (jt_code 136) 48 = .ok (.iconst 0, 1) := by decide +kernel
theorem E136_48 {call : jv_F} {l0 l1 l2 l3 : Option Value}  {st : List Value} {h : jv_H} : jv_ev call 136 48 [l0, l1, l2, l3] st h = jv_ev call 136 49 [l0, l1, l2, l3] (.int (nI 0) :: st) h := je_iconst D136_48 rfl (by decide)
theorem D136_49 : decode (jt_code 136) 49 = .ok (.ireturn, 1) := by decide +kernel
theorem E136_49 {call : jv_F} {l0 l1 l2 l3 : Option Value} {v : Int32} {h : jv_H} : jv_ev call 136 49 [l0, l1, l2, l3] [.int v] h = some (some (.int v), h) := je_iret (ty := .int) D136_49 rfl rfl rfl
theorem D136_50 : decode (jt_code 136) 50 = .ok (.iload_n 2, 1) := by decide +kernel
theorem E136_50 {call : jv_F} {l0 l1 l3 : Option Value} {x : Int32} {st : List Value} {h : jv_H} : jv_ev call 136 50 [l0, l1, some (.int x), l3] st h = jv_ev call 136 51 [l0, l1, some (.int x), l3] (.int x :: st) h := je_iload_n D136_50 rfl rfl
theorem D136_51 : decode (jt_code 136) 51 = .ok (.tableswitch 71 0 3 #[29, 37, 42, 55], 29) := by decide +kernel
theorem E136_51 {call : jv_F} {l0 l1 l2 l3 : Option Value} {x : Int32} {st : List Value} {h : jv_H} : jv_ev call 136 51 [l0, l1, l2, l3] (.int x :: st) h = if x = (nI 0) then jv_ev call 136 80 [l0, l1, l2, l3] st h else (if x = (nI 1) then jv_ev call 136 88 [l0, l1, l2, l3] st h else (if x = (nI 2) then jv_ev call 136 93 [l0, l1, l2, l3] st h else (if x = (nI 3) then jv_ev call 136 106 [l0, l1, l2, l3] st h else (jv_ev call 136 122 [l0, l1, l2, l3] st h)))) := by
  by_cases h0 : x = nI 0
  · subst h0
    exact je_next D136_51 rfl
  by_cases h1 : x = nI 1
  · subst h1
    exact je_next D136_51 rfl
  by_cases h2 : x = nI 2
  · subst h2
    exact je_next D136_51 rfl
  by_cases h3 : x = nI 3
  · subst h3
    exact je_next D136_51 rfl
  rw [if_neg h0]
  rw [if_neg h1]
  rw [if_neg h2]
  rw [if_neg h3]
  refine je_next D136_51 ?_
  simp only [jv_ins]
  rw [if_pos (show x.toInt < 0 ∨ 3 < x.toInt from jv_tab (lo := 0) (hi := 3) (fun k hk1 hk2 => by
    rcases (show k = 0 ∨ k = 1 ∨ k = 2 ∨ k = 3 by omega) with rfl | rfl | rfl | rfl
    · exact h0
    · exact h1
    · exact h2
    · exact h3) (by decide))]
  exact jv_go_eq (by decide)
theorem D136_80 : decode (jt_code 136) 80 = .ok (.aload_n 3, 1) := by decide +kernel
theorem E136_80 {call : jv_F} {l0 l1 l2 : Option Value} {a : Nat} {st : List Value} {h : jv_H} : jv_ev call 136 80 [l0, l1, l2, some (.ref a)] st h = jv_ev call 136 81 [l0, l1, l2, some (.ref a)] (.ref a :: st) h := je_aload_n (r := some a) D136_80 rfl rfl
theorem E136_80r {call : jv_F} {l0 l1 l2 : Option Value} {r : Option Nat} {st : List Value} {h : jv_H} : jv_ev call 136 80 [l0, l1, l2, some (va_rf r)] st h = jv_ev call 136 81 [l0, l1, l2, some (va_rf r)] (va_rf r :: st) h := je_aload_n (r := r) D136_80 rfl rfl
theorem D136_81 : decode (jt_code 136) 81 = .ok (.getfield 163, 3) := by decide +kernel
theorem E136_81 {call : jv_F} {l0 l1 l2 l3 : Option Value} {a : Nat} {st : List Value} {h : jv_H} (hs : (jv_gf h a 1 0).isSome = true) : jv_ev call 136 81 [l0, l1, l2, l3] (.ref a :: st) h = jv_ev call 136 84 [l0, l1, l2, l3] ((jv_gf h a 1 0).getD .null :: st) h := by
  obtain ⟨v, hv⟩ := Option.isSome_iff_exists.mp hs
  rw [hv]
  exact je_get D136_81 rfl (by decide) hv
theorem D136_84 : decode (jt_code 136) 84 = .ok (.getfield 103, 3) := by decide +kernel
theorem E136_84 {call : jv_F} {l0 l1 l2 l3 : Option Value} {a : Nat} {st : List Value} {h : jv_H} (hs : (jv_gf h a 4 0).isSome = true) : jv_ev call 136 84 [l0, l1, l2, l3] (.ref a :: st) h = jv_ev call 136 87 [l0, l1, l2, l3] ((jv_gf h a 4 0).getD .null :: st) h := by
  obtain ⟨v, hv⟩ := Option.isSome_iff_exists.mp hs
  rw [hv]
  exact je_get D136_84 rfl (by decide) hv
theorem D136_87 : decode (jt_code 136) 87 = .ok (.ireturn, 1) := by decide +kernel
theorem E136_87 {call : jv_F} {l0 l1 l2 l3 : Option Value} {v : Int32} {h : jv_H} : jv_ev call 136 87 [l0, l1, l2, l3] [.int v] h = some (some (.int v), h) := je_iret (ty := .int) D136_87 rfl rfl rfl
theorem D136_88 : decode (jt_code 136) 88 = .ok (.aload_n 3, 1) := by decide +kernel
theorem E136_88 {call : jv_F} {l0 l1 l2 : Option Value} {a : Nat} {st : List Value} {h : jv_H} : jv_ev call 136 88 [l0, l1, l2, some (.ref a)] st h = jv_ev call 136 89 [l0, l1, l2, some (.ref a)] (.ref a :: st) h := je_aload_n (r := some a) D136_88 rfl rfl
theorem E136_88r {call : jv_F} {l0 l1 l2 : Option Value} {r : Option Nat} {st : List Value} {h : jv_H} : jv_ev call 136 88 [l0, l1, l2, some (va_rf r)] st h = jv_ev call 136 89 [l0, l1, l2, some (va_rf r)] (va_rf r :: st) h := je_aload_n (r := r) D136_88 rfl rfl
theorem D136_89 : decode (jt_code 136) 89 = .ok (.getfield 169, 3) := by decide +kernel
theorem E136_89 {call : jv_F} {l0 l1 l2 l3 : Option Value} {a : Nat} {st : List Value} {h : jv_H} (hs : (jv_gf h a 1 1).isSome = true) : jv_ev call 136 89 [l0, l1, l2, l3] (.ref a :: st) h = jv_ev call 136 92 [l0, l1, l2, l3] ((jv_gf h a 1 1).getD .null :: st) h := by
  obtain ⟨v, hv⟩ := Option.isSome_iff_exists.mp hs
  rw [hv]
  exact je_get D136_89 rfl (by decide) hv
theorem D136_92 : decode (jt_code 136) 92 = .ok (.ireturn, 1) := by decide +kernel
theorem E136_92 {call : jv_F} {l0 l1 l2 l3 : Option Value} {v : Int32} {h : jv_H} : jv_ev call 136 92 [l0, l1, l2, l3] [.int v] h = some (some (.int v), h) := je_iret (ty := .int) D136_92 rfl rfl rfl
theorem D136_93 : decode (jt_code 136) 93 = .ok (.aload_n 3, 1) := by decide +kernel
theorem E136_93 {call : jv_F} {l0 l1 l2 : Option Value} {a : Nat} {st : List Value} {h : jv_H} : jv_ev call 136 93 [l0, l1, l2, some (.ref a)] st h = jv_ev call 136 94 [l0, l1, l2, some (.ref a)] (.ref a :: st) h := je_aload_n (r := some a) D136_93 rfl rfl
theorem E136_93r {call : jv_F} {l0 l1 l2 : Option Value} {r : Option Nat} {st : List Value} {h : jv_H} : jv_ev call 136 93 [l0, l1, l2, some (va_rf r)] st h = jv_ev call 136 94 [l0, l1, l2, some (va_rf r)] (va_rf r :: st) h := je_aload_n (r := r) D136_93 rfl rfl
theorem D136_94 : decode (jt_code 136) 94 = .ok (.getfield 170, 3) := by decide +kernel
theorem E136_94 {call : jv_F} {l0 l1 l2 l3 : Option Value} {a : Nat} {st : List Value} {h : jv_H} (hs : (jv_gf h a 1 4).isSome = true) : jv_ev call 136 94 [l0, l1, l2, l3] (.ref a :: st) h = jv_ev call 136 97 [l0, l1, l2, l3] ((jv_gf h a 1 4).getD .null :: st) h := by
  obtain ⟨v, hv⟩ := Option.isSome_iff_exists.mp hs
  rw [hv]
  exact je_get D136_94 rfl (by decide) hv
theorem D136_97 : decode (jt_code 136) 97 = .ok (.ifCond .eq 7, 3) := by decide +kernel
theorem E136_97 {call : jv_F} {l0 l1 l2 l3 : Option Value} {x : Int32} {st : List Value} {h : jv_H} : jv_ev call 136 97 [l0, l1, l2, l3] (.int x :: st) h = if x = 0 then jv_ev call 136 104 [l0, l1, l2, l3] st h else jv_ev call 136 100 [l0, l1, l2, l3] st h := je_ifc D136_97 (by decide) rfl rfl
theorem D136_100 : decode (jt_code 136) 100 = .ok (.iconst 1, 1) := by decide +kernel
theorem E136_100 {call : jv_F} {l0 l1 l2 l3 : Option Value}  {st : List Value} {h : jv_H} : jv_ev call 136 100 [l0, l1, l2, l3] st h = jv_ev call 136 101 [l0, l1, l2, l3] (.int (nI 1) :: st) h := je_iconst D136_100 rfl (by decide)
theorem D136_101 : decode (jt_code 136) 101 = .ok (.goto 4, 3) := by decide +kernel
theorem E136_101 {call : jv_F} {l0 l1 l2 l3 : Option Value}  {st : List Value} {h : jv_H} : jv_ev call 136 101 [l0, l1, l2, l3] st h = jv_ev call 136 105 [l0, l1, l2, l3] st h := je_goto D136_101 (by decide)
theorem D136_104 : decode (jt_code 136) 104 = .ok (.iconst 0, 1) := by decide +kernel
theorem E136_104 {call : jv_F} {l0 l1 l2 l3 : Option Value}  {st : List Value} {h : jv_H} : jv_ev call 136 104 [l0, l1, l2, l3] st h = jv_ev call 136 105 [l0, l1, l2, l3] (.int (nI 0) :: st) h := je_iconst D136_104 rfl (by decide)
theorem D136_105 : decode (jt_code 136) 105 = .ok (.ireturn, 1) := by decide +kernel
theorem E136_105 {call : jv_F} {l0 l1 l2 l3 : Option Value} {v : Int32} {h : jv_H} : jv_ev call 136 105 [l0, l1, l2, l3] [.int v] h = some (some (.int v), h) := je_iret (ty := .int) D136_105 rfl rfl rfl
theorem D136_106 : decode (jt_code 136) 106 = .ok (.aload_n 3, 1) := by decide +kernel
theorem E136_106 {call : jv_F} {l0 l1 l2 : Option Value} {a : Nat} {st : List Value} {h : jv_H} : jv_ev call 136 106 [l0, l1, l2, some (.ref a)] st h = jv_ev call 136 107 [l0, l1, l2, some (.ref a)] (.ref a :: st) h := je_aload_n (r := some a) D136_106 rfl rfl
theorem E136_106r {call : jv_F} {l0 l1 l2 : Option Value} {r : Option Nat} {st : List Value} {h : jv_H} : jv_ev call 136 106 [l0, l1, l2, some (va_rf r)] st h = jv_ev call 136 107 [l0, l1, l2, some (va_rf r)] (va_rf r :: st) h := je_aload_n (r := r) D136_106 rfl rfl
theorem D136_107 : decode (jt_code 136) 107 = .ok (.getfield 170, 3) := by decide +kernel
theorem E136_107 {call : jv_F} {l0 l1 l2 l3 : Option Value} {a : Nat} {st : List Value} {h : jv_H} (hs : (jv_gf h a 1 4).isSome = true) : jv_ev call 136 107 [l0, l1, l2, l3] (.ref a :: st) h = jv_ev call 136 110 [l0, l1, l2, l3] ((jv_gf h a 1 4).getD .null :: st) h := by
  obtain ⟨v, hv⟩ := Option.isSome_iff_exists.mp hs
  rw [hv]
  exact je_get D136_107 rfl (by decide) hv
theorem D136_110 : decode (jt_code 136) 110 = .ok (.ifCond .eq 7, 3) := by decide +kernel
theorem E136_110 {call : jv_F} {l0 l1 l2 l3 : Option Value} {x : Int32} {st : List Value} {h : jv_H} : jv_ev call 136 110 [l0, l1, l2, l3] (.int x :: st) h = if x = 0 then jv_ev call 136 117 [l0, l1, l2, l3] st h else jv_ev call 136 113 [l0, l1, l2, l3] st h := je_ifc D136_110 (by decide) rfl rfl
theorem D136_113 : decode (jt_code 136) 113 = .ok (.iconst 0, 1) := by decide +kernel
theorem E136_113 {call : jv_F} {l0 l1 l2 l3 : Option Value}  {st : List Value} {h : jv_H} : jv_ev call 136 113 [l0, l1, l2, l3] st h = jv_ev call 136 114 [l0, l1, l2, l3] (.int (nI 0) :: st) h := je_iconst D136_113 rfl (by decide)
theorem D136_114 : decode (jt_code 136) 114 = .ok (.goto 7, 3) := by decide +kernel
theorem E136_114 {call : jv_F} {l0 l1 l2 l3 : Option Value}  {st : List Value} {h : jv_H} : jv_ev call 136 114 [l0, l1, l2, l3] st h = jv_ev call 136 121 [l0, l1, l2, l3] st h := je_goto D136_114 (by decide)
theorem D136_117 : decode (jt_code 136) 117 = .ok (.aload_n 3, 1) := by decide +kernel
theorem E136_117 {call : jv_F} {l0 l1 l2 : Option Value} {a : Nat} {st : List Value} {h : jv_H} : jv_ev call 136 117 [l0, l1, l2, some (.ref a)] st h = jv_ev call 136 118 [l0, l1, l2, some (.ref a)] (.ref a :: st) h := je_aload_n (r := some a) D136_117 rfl rfl
theorem E136_117r {call : jv_F} {l0 l1 l2 : Option Value} {r : Option Nat} {st : List Value} {h : jv_H} : jv_ev call 136 117 [l0, l1, l2, some (va_rf r)] st h = jv_ev call 136 118 [l0, l1, l2, some (va_rf r)] (va_rf r :: st) h := je_aload_n (r := r) D136_117 rfl rfl
theorem D136_118 : decode (jt_code 136) 118 = .ok (.getfield 174, 3) := by decide +kernel
theorem E136_118 {call : jv_F} {l0 l1 l2 l3 : Option Value} {a : Nat} {st : List Value} {h : jv_H} (hs : (jv_gf h a 1 6).isSome = true) : jv_ev call 136 118 [l0, l1, l2, l3] (.ref a :: st) h = jv_ev call 136 121 [l0, l1, l2, l3] ((jv_gf h a 1 6).getD .null :: st) h := by
  obtain ⟨v, hv⟩ := Option.isSome_iff_exists.mp hs
  rw [hv]
  exact je_get D136_118 rfl (by decide) hv
theorem D136_121 : decode (jt_code 136) 121 = .ok (.ireturn, 1) := by decide +kernel
theorem E136_121 {call : jv_F} {l0 l1 l2 l3 : Option Value} {v : Int32} {h : jv_H} : jv_ev call 136 121 [l0, l1, l2, l3] [.int v] h = some (some (.int v), h) := je_iret (ty := .int) D136_121 rfl rfl rfl
theorem D136_122 : decode (jt_code 136) 122 = .ok (.aload_n 3, 1) := by decide +kernel
theorem E136_122 {call : jv_F} {l0 l1 l2 : Option Value} {a : Nat} {st : List Value} {h : jv_H} : jv_ev call 136 122 [l0, l1, l2, some (.ref a)] st h = jv_ev call 136 123 [l0, l1, l2, some (.ref a)] (.ref a :: st) h := je_aload_n (r := some a) D136_122 rfl rfl
theorem E136_122r {call : jv_F} {l0 l1 l2 : Option Value} {r : Option Nat} {st : List Value} {h : jv_H} : jv_ev call 136 122 [l0, l1, l2, some (va_rf r)] st h = jv_ev call 136 123 [l0, l1, l2, some (va_rf r)] (va_rf r :: st) h := je_aload_n (r := r) D136_122 rfl rfl
theorem D136_123 : decode (jt_code 136) 123 = .ok (.getfield 170, 3) := by decide +kernel
theorem E136_123 {call : jv_F} {l0 l1 l2 l3 : Option Value} {a : Nat} {st : List Value} {h : jv_H} (hs : (jv_gf h a 1 4).isSome = true) : jv_ev call 136 123 [l0, l1, l2, l3] (.ref a :: st) h = jv_ev call 136 126 [l0, l1, l2, l3] ((jv_gf h a 1 4).getD .null :: st) h := by
  obtain ⟨v, hv⟩ := Option.isSome_iff_exists.mp hs
  rw [hv]
  exact je_get D136_123 rfl (by decide) hv
theorem D136_126 : decode (jt_code 136) 126 = .ok (.ifCond .eq 7, 3) := by decide +kernel
theorem E136_126 {call : jv_F} {l0 l1 l2 l3 : Option Value} {x : Int32} {st : List Value} {h : jv_H} : jv_ev call 136 126 [l0, l1, l2, l3] (.int x :: st) h = if x = 0 then jv_ev call 136 133 [l0, l1, l2, l3] st h else jv_ev call 136 129 [l0, l1, l2, l3] st h := je_ifc D136_126 (by decide) rfl rfl
theorem D136_129 : decode (jt_code 136) 129 = .ok (.iconst 0, 1) := by decide +kernel
theorem E136_129 {call : jv_F} {l0 l1 l2 l3 : Option Value}  {st : List Value} {h : jv_H} : jv_ev call 136 129 [l0, l1, l2, l3] st h = jv_ev call 136 130 [l0, l1, l2, l3] (.int (nI 0) :: st) h := je_iconst D136_129 rfl (by decide)
theorem D136_130 : decode (jt_code 136) 130 = .ok (.goto 7, 3) := by decide +kernel
theorem E136_130 {call : jv_F} {l0 l1 l2 l3 : Option Value}  {st : List Value} {h : jv_H} : jv_ev call 136 130 [l0, l1, l2, l3] st h = jv_ev call 136 137 [l0, l1, l2, l3] st h := je_goto D136_130 (by decide)
theorem D136_133 : decode (jt_code 136) 133 = .ok (.aload_n 3, 1) := by decide +kernel
theorem E136_133 {call : jv_F} {l0 l1 l2 : Option Value} {a : Nat} {st : List Value} {h : jv_H} : jv_ev call 136 133 [l0, l1, l2, some (.ref a)] st h = jv_ev call 136 134 [l0, l1, l2, some (.ref a)] (.ref a :: st) h := je_aload_n (r := some a) D136_133 rfl rfl
theorem E136_133r {call : jv_F} {l0 l1 l2 : Option Value} {r : Option Nat} {st : List Value} {h : jv_H} : jv_ev call 136 133 [l0, l1, l2, some (va_rf r)] st h = jv_ev call 136 134 [l0, l1, l2, some (va_rf r)] (va_rf r :: st) h := je_aload_n (r := r) D136_133 rfl rfl
theorem D136_134 : decode (jt_code 136) 134 = .ok (.getfield 177, 3) := by decide +kernel
theorem E136_134 {call : jv_F} {l0 l1 l2 l3 : Option Value} {a : Nat} {st : List Value} {h : jv_H} (hs : (jv_gf h a 1 7).isSome = true) : jv_ev call 136 134 [l0, l1, l2, l3] (.ref a :: st) h = jv_ev call 136 137 [l0, l1, l2, l3] ((jv_gf h a 1 7).getD .null :: st) h := by
  obtain ⟨v, hv⟩ := Option.isSome_iff_exists.mp hs
  rw [hv]
  exact je_get D136_134 rfl (by decide) hv
theorem D136_137 : decode (jt_code 136) 137 = .ok (.ireturn, 1) := by decide +kernel
theorem E136_137 {call : jv_F} {l0 l1 l2 l3 : Option Value} {v : Int32} {h : jv_H} : jv_ev call 136 137 [l0, l1, l2, l3] [.int v] h = some (some (.int v), h) := je_iret (ty := .int) D136_137 rfl rfl rfl
/-! method 137: DrumMachine.sector -/
theorem N137 {d : Nat} {b : Nat} {a0 : Int32} {h : jv_H} : jv_run (d + 1) 137 [.ref b, .int a0] h = jv_ev (jv_run d) 137 0 [some (.ref b), some (.int a0), none] [] h := jv_run_eq (Nat.le_of_ble_eq_true rfl) rfl
theorem D137_0 : decode (jt_code 137) 0 = .ok (.aload_n 0, 1) := by decide +kernel
theorem E137_0 {call : jv_F} {l1 l2 : Option Value} {a : Nat} {st : List Value} {h : jv_H} : jv_ev call 137 0 [some (.ref a), l1, l2] st h = jv_ev call 137 1 [some (.ref a), l1, l2] (.ref a :: st) h := je_aload_n (r := some a) D137_0 rfl rfl
theorem D137_1 : decode (jt_code 137) 1 = .ok (.getfield 26, 3) := by decide +kernel
theorem E137_1 {call : jv_F} {l0 l1 l2 : Option Value} {a : Nat} {st : List Value} {h : jv_H} (hs : (jv_gf h a 6 2).isSome = true) : jv_ev call 137 1 [l0, l1, l2] (.ref a :: st) h = jv_ev call 137 4 [l0, l1, l2] ((jv_gf h a 6 2).getD .null :: st) h := by
  obtain ⟨v, hv⟩ := Option.isSome_iff_exists.mp hs
  rw [hv]
  exact je_get D137_1 rfl (by decide) hv
theorem D137_4 : decode (jt_code 137) 4 = .ok (.iload_n 1, 1) := by decide +kernel
theorem E137_4 {call : jv_F} {l0 l2 : Option Value} {x : Int32} {st : List Value} {h : jv_H} : jv_ev call 137 4 [l0, some (.int x), l2] st h = jv_ev call 137 5 [l0, some (.int x), l2] (.int x :: st) h := je_iload_n D137_4 rfl rfl
theorem D137_5 : decode (jt_code 137) 5 = .ok (.invokevirtual 180, 3) := by decide +kernel
theorem E137_5 {call : jv_F} {l0 l1 l2 : Option Value} {b : Nat} {v0 : Value}  {st : List Value} {h : jv_H} (hw : jv_wide st = true) (hcl : jv_cl h b = some 3) (hc : (call 77 [.ref b, v0] h).isSome = true) : jv_ev call 137 5 [l0, l1, l2] (v0 :: .ref b :: st) h = jv_ev call 137 8 [l0, l1, l2] ((((call 77 [.ref b, v0] h).getD (none, h)).1).toList ++ st) ((call 77 [.ref b, v0] h).getD (none, h)).2 := by
  obtain ⟨⟨r, h'⟩, hv⟩ := Option.isSome_iff_exists.mp hc
  rw [hv]
  exact je_virt (y := 77) (as := [v0]) D137_5 rfl (by decide) (by decide) rfl hcl hw hv
theorem D137_8 : decode (jt_code 137) 8 = .ok (.astore_n 2, 1) := by decide +kernel
theorem E137_8 {call : jv_F} {l0 l1 l2 : Option Value} {a : Nat} {st : List Value} {h : jv_H} (hk : ¬ jv_is2 (some l1) = true) : jv_ev call 137 8 [l0, l1, l2] (.ref a :: st) h = jv_ev call 137 9 [l0, l1, some (.ref a)] st h := je_astore_n (r := some a) D137_8 rfl (Nat.le_of_ble_eq_true rfl) (by show jv_st1 _ 2 _ = _; simp only [jv_st1, jv_kill, List.getElem?_cons_succ, List.getElem?_cons_zero, hk, if_false]; rfl)
theorem E137_8r {call : jv_F} {l0 l1 l2 : Option Value} {r : Option Nat} {st : List Value} {h : jv_H} (hk : ¬ jv_is2 (some l1) = true) : jv_ev call 137 8 [l0, l1, l2] (va_rf r :: st) h = jv_ev call 137 9 [l0, l1, some (va_rf r)] st h := je_astore_n (r := r) D137_8 rfl (Nat.le_of_ble_eq_true rfl) (by show jv_st1 _ 2 _ = _; simp only [jv_st1, jv_kill, List.getElem?_cons_succ, List.getElem?_cons_zero, hk, if_false]; rfl)
theorem D137_9 : decode (jt_code 137) 9 = .ok (.aload_n 2, 1) := by decide +kernel
theorem E137_9 {call : jv_F} {l0 l1 : Option Value} {a : Nat} {st : List Value} {h : jv_H} : jv_ev call 137 9 [l0, l1, some (.ref a)] st h = jv_ev call 137 10 [l0, l1, some (.ref a)] (.ref a :: st) h := je_aload_n (r := some a) D137_9 rfl rfl
theorem E137_9r {call : jv_F} {l0 l1 : Option Value} {r : Option Nat} {st : List Value} {h : jv_H} : jv_ev call 137 9 [l0, l1, some (va_rf r)] st h = jv_ev call 137 10 [l0, l1, some (va_rf r)] (va_rf r :: st) h := je_aload_n (r := r) D137_9 rfl rfl
theorem D137_10 : decode (jt_code 137) 10 = .ok (.ifnonnull 7, 3) := by decide +kernel
theorem E137_10r {call : jv_F} {l0 l1 l2 : Option Value} {x : Option Nat} {st : List Value} {h : jv_H} : jv_ev call 137 10 [l0, l1, l2] (va_rf x :: st) h = if x = none then jv_ev call 137 13 [l0, l1, l2] st h else jv_ev call 137 17 [l0, l1, l2] st h := je_ifnonnull D137_10 (by decide) rfl
theorem E137_10 {call : jv_F} {l0 l1 l2 : Option Value} {x : Nat} {st : List Value} {h : jv_H} : jv_ev call 137 10 [l0, l1, l2] (.ref x :: st) h = jv_ev call 137 17 [l0, l1, l2] st h := (je_ifnonnull (x := some x) (t := 17) D137_10 (by decide) rfl).trans (if_neg (by simp))
theorem D137_13 : decode (jt_code 137) 13 = .ok (.iconst (-1), 1) := by decide +kernel
theorem E137_13 {call : jv_F} {l0 l1 l2 : Option Value}  {st : List Value} {h : jv_H} : jv_ev call 137 13 [l0, l1, l2] st h = jv_ev call 137 14 [l0, l1, l2] (.int (-1) :: st) h := je_iconst D137_13 rfl (by decide)
theorem D137_14 : decode (jt_code 137) 14 = .ok (.goto 19, 3) := by decide +kernel
theorem E137_14 {call : jv_F} {l0 l1 l2 : Option Value}  {st : List Value} {h : jv_H} : jv_ev call 137 14 [l0, l1, l2] st h = jv_ev call 137 33 [l0, l1, l2] st h := je_goto D137_14 (by decide)
theorem D137_17 : decode (jt_code 137) 17 = .ok (.sipush 1000, 3) := by decide +kernel
theorem E137_17 {call : jv_F} {l0 l1 l2 : Option Value}  {st : List Value} {h : jv_H} : jv_ev call 137 17 [l0, l1, l2] st h = jv_ev call 137 20 [l0, l1, l2] (.int (nI 1000) :: st) h := je_sipush D137_17 rfl (by decide)
theorem D137_20 : decode (jt_code 137) 20 = .ok (.aload_n 2, 1) := by decide +kernel
theorem E137_20 {call : jv_F} {l0 l1 : Option Value} {a : Nat} {st : List Value} {h : jv_H} : jv_ev call 137 20 [l0, l1, some (.ref a)] st h = jv_ev call 137 21 [l0, l1, some (.ref a)] (.ref a :: st) h := je_aload_n (r := some a) D137_20 rfl rfl
theorem E137_20r {call : jv_F} {l0 l1 : Option Value} {r : Option Nat} {st : List Value} {h : jv_H} : jv_ev call 137 20 [l0, l1, some (va_rf r)] st h = jv_ev call 137 21 [l0, l1, some (va_rf r)] (va_rf r :: st) h := je_aload_n (r := r) D137_20 rfl rfl
theorem D137_21 : decode (jt_code 137) 21 = .ok (.getfield 163, 3) := by decide +kernel
theorem E137_21 {call : jv_F} {l0 l1 l2 : Option Value} {a : Nat} {st : List Value} {h : jv_H} (hs : (jv_gf h a 1 0).isSome = true) : jv_ev call 137 21 [l0, l1, l2] (.ref a :: st) h = jv_ev call 137 24 [l0, l1, l2] ((jv_gf h a 1 0).getD .null :: st) h := by
  obtain ⟨v, hv⟩ := Option.isSome_iff_exists.mp hs
  rw [hv]
  exact je_get D137_21 rfl (by decide) hv
theorem D137_24 : decode (jt_code 137) 24 = .ok (.getfield 103, 3) := by decide +kernel
theorem E137_24 {call : jv_F} {l0 l1 l2 : Option Value} {a : Nat} {st : List Value} {h : jv_H} (hs : (jv_gf h a 4 0).isSome = true) : jv_ev call 137 24 [l0, l1, l2] (.ref a :: st) h = jv_ev call 137 27 [l0, l1, l2] ((jv_gf h a 4 0).getD .null :: st) h := by
  obtain ⟨v, hv⟩ := Option.isSome_iff_exists.mp hs
  rw [hv]
  exact je_get D137_24 rfl (by decide) hv
theorem D137_27 : decode (jt_code 137) 27 = .ok (.imul, 1) := by decide +kernel
theorem E137_27 {call : jv_F} {l0 l1 l2 : Option Value} {x y : Int32} {st : List Value} {h : jv_H} : jv_ev call 137 27 [l0, l1, l2] (.int y :: .int x :: st) h = jv_ev call 137 28 [l0, l1, l2] (.int (x * y) :: st) h := je_b2 (f := fun x y => x * y) D137_27 rfl (fun _ => rfl)
theorem D137_28 : decode (jt_code 137) 28 = .ok (.aload_n 2, 1) := by decide +kernel
theorem E137_28 {call : jv_F} {l0 l1 : Option Value} {a : Nat} {st : List Value} {h : jv_H} : jv_ev call 137 28 [l0, l1, some (.ref a)] st h = jv_ev call 137 29 [l0, l1, some (.ref a)] (.ref a :: st) h := je_aload_n (r := some a) D137_28 rfl rfl
theorem E137_28r {call : jv_F} {l0 l1 : Option Value} {r : Option Nat} {st : List Value} {h : jv_H} : jv_ev call 137 28 [l0, l1, some (va_rf r)] st h = jv_ev call 137 29 [l0, l1, some (va_rf r)] (va_rf r :: st) h := je_aload_n (r := r) D137_28 rfl rfl
theorem D137_29 : decode (jt_code 137) 29 = .ok (.getfield 169, 3) := by decide +kernel
theorem E137_29 {call : jv_F} {l0 l1 l2 : Option Value} {a : Nat} {st : List Value} {h : jv_H} (hs : (jv_gf h a 1 1).isSome = true) : jv_ev call 137 29 [l0, l1, l2] (.ref a :: st) h = jv_ev call 137 32 [l0, l1, l2] ((jv_gf h a 1 1).getD .null :: st) h := by
  obtain ⟨v, hv⟩ := Option.isSome_iff_exists.mp hs
  rw [hv]
  exact je_get D137_29 rfl (by decide) hv
theorem D137_32 : decode (jt_code 137) 32 = .ok (.iadd, 1) := by decide +kernel
theorem E137_32 {call : jv_F} {l0 l1 l2 : Option Value} {x y : Int32} {st : List Value} {h : jv_H} : jv_ev call 137 32 [l0, l1, l2] (.int y :: .int x :: st) h = jv_ev call 137 33 [l0, l1, l2] (.int (x + y) :: st) h := je_b2 (f := fun x y => x + y) D137_32 rfl (fun _ => rfl)
theorem D137_33 : decode (jt_code 137) 33 = .ok (.ireturn, 1) := by decide +kernel
theorem E137_33 {call : jv_F} {l0 l1 l2 : Option Value} {v : Int32} {h : jv_H} : jv_ev call 137 33 [l0, l1, l2] [.int v] h = some (some (.int v), h) := je_iret (ty := .int) D137_33 rfl rfl rfl
/-! method 138: DrumMachine.digest -/
theorem N138 {d : Nat} {b : Nat} {h : jv_H} : jv_run (d + 1) 138 [.ref b] h = jv_ev (jv_run d) 138 0 [some (.ref b), none, none, none, none] [] h := jv_run_eq (Nat.le_of_ble_eq_true rfl) rfl
theorem D138_0 : decode (jt_code 138) 0 = .ok (.ldc2_w 183, 3) := by decide +kernel
theorem E138_0 {call : jv_F} {l0 l1 l2 l3 l4 : Option Value}  {st : List Value} {h : jv_H} : jv_ev call 138 0 [l0, l1, l2, l3, l4] st h = jv_ev call 138 3 [l0, l1, l2, l3, l4] (.long 7 :: st) h := je_ldc2 D138_0 rfl (by decide)
theorem D138_3 : decode (jt_code 138) 3 = .ok (.lstore_n 1, 1) := by decide +kernel
theorem E138_3 {call : jv_F} {l0 l1 l2 l3 l4 : Option Value} {x : Int64} {st : List Value} {h : jv_H} (hk : ¬ jv_is2 (some l0) = true) : jv_ev call 138 3 [l0, l1, l2, l3, l4] (.long x :: st) h = jv_ev call 138 4 [l0, some (.long x), none, l3, l4] st h := je_lstore_n D138_3 rfl (Nat.le_of_ble_eq_true rfl) (by show jv_st2 _ 1 _ = _; simp only [jv_st2, jv_kill, List.getElem?_cons_succ, List.getElem?_cons_zero, hk, if_false]; rfl)
theorem D138_4 : decode (jt_code 138) 4 = .ok (.iconst 0, 1) := by decide +kernel
theorem E138_4 {call : jv_F} {l0 l1 l2 l3 l4 : Option Value}  {st : List Value} {h : jv_H} : jv_ev call 138 4 [l0, l1, l2, l3, l4] st h = jv_ev call 138 5 [l0, l1, l2, l3, l4] (.int (nI 0) :: st) h := je_iconst D138_4 rfl (by decide)
theorem D138_5 : decode (jt_code 138) 5 = .ok (.istore_n 3, 1) := by decide +kernel
theorem E138_5 {call : jv_F} {l0 l1 l2 l3 l4 : Option Value} {x : Int32} {st : List Value} {h : jv_H} (hk : ¬ jv_is2 (some l2) = true) : jv_ev call 138 5 [l0, l1, l2, l3, l4] (.int x :: st) h = jv_ev call 138 6 [l0, l1, l2, some (.int x), l4] st h := je_istore_n D138_5 rfl (Nat.le_of_ble_eq_true rfl) (by show jv_st1 _ 3 _ = _; simp only [jv_st1, jv_kill, List.getElem?_cons_succ, List.getElem?_cons_zero, hk, if_false]; rfl)
theorem D138_6 : decode (jt_code 138) 6 = .ok (.iload_n 3, 1) := by decide +kernel
theorem E138_6 {call : jv_F} {l0 l1 l2 l4 : Option Value} {x : Int32} {st : List Value} {h : jv_H} : jv_ev call 138 6 [l0, l1, l2, some (.int x), l4] st h = jv_ev call 138 7 [l0, l1, l2, some (.int x), l4] (.int x :: st) h := je_iload_n D138_6 rfl rfl
theorem D138_7 : decode (jt_code 138) 7 = .ok (.aload_n 0, 1) := by decide +kernel
theorem E138_7 {call : jv_F} {l1 l2 l3 l4 : Option Value} {a : Nat} {st : List Value} {h : jv_H} : jv_ev call 138 7 [some (.ref a), l1, l2, l3, l4] st h = jv_ev call 138 8 [some (.ref a), l1, l2, l3, l4] (.ref a :: st) h := je_aload_n (r := some a) D138_7 rfl rfl
theorem D138_8 : decode (jt_code 138) 8 = .ok (.getfield 36, 3) := by decide +kernel
theorem E138_8 {call : jv_F} {l0 l1 l2 l3 l4 : Option Value} {a : Nat} {st : List Value} {h : jv_H} (hs : (jv_gf h a 6 4).isSome = true) : jv_ev call 138 8 [l0, l1, l2, l3, l4] (.ref a :: st) h = jv_ev call 138 11 [l0, l1, l2, l3, l4] ((jv_gf h a 6 4).getD .null :: st) h := by
  obtain ⟨v, hv⟩ := Option.isSome_iff_exists.mp hs
  rw [hv]
  exact je_get D138_8 rfl (by decide) hv
theorem D138_11 : decode (jt_code 138) 11 = .ok (.if_icmp .ge 32, 3) := by decide +kernel
theorem E138_11 {call : jv_F} {l0 l1 l2 l3 l4 : Option Value} {x y : Int32} {st : List Value} {h : jv_H} : jv_ev call 138 11 [l0, l1, l2, l3, l4] (.int y :: .int x :: st) h = if y ≤ x then jv_ev call 138 43 [l0, l1, l2, l3, l4] st h else jv_ev call 138 14 [l0, l1, l2, l3, l4] st h := je_icmp D138_11 (by decide) rfl rfl
theorem D138_14 : decode (jt_code 138) 14 = .ok (.aload_n 0, 1) := by decide +kernel
theorem E138_14 {call : jv_F} {l1 l2 l3 l4 : Option Value} {a : Nat} {st : List Value} {h : jv_H} : jv_ev call 138 14 [some (.ref a), l1, l2, l3, l4] st h = jv_ev call 138 15 [some (.ref a), l1, l2, l3, l4] (.ref a :: st) h := je_aload_n (r := some a) D138_14 rfl rfl
theorem D138_15 : decode (jt_code 138) 15 = .ok (.iload_n 3, 1) := by decide +kernel
theorem E138_15 {call : jv_F} {l0 l1 l2 l4 : Option Value} {x : Int32} {st : List Value} {h : jv_H} : jv_ev call 138 15 [l0, l1, l2, some (.int x), l4] st h = jv_ev call 138 16 [l0, l1, l2, some (.int x), l4] (.int x :: st) h := je_iload_n D138_15 rfl rfl
theorem D138_16 : decode (jt_code 138) 16 = .ok (.invokevirtual 109, 3) := by decide +kernel
theorem E138_16 {call : jv_F} {l0 l1 l2 l3 l4 : Option Value} {b : Nat} {v0 : Value}  {st : List Value} {h : jv_H} (hw : jv_wide st = true) (hcl : jv_cl h b = some 6) (hc : (call 139 [.ref b, v0] h).isSome = true) : jv_ev call 138 16 [l0, l1, l2, l3, l4] (v0 :: .ref b :: st) h = jv_ev call 138 19 [l0, l1, l2, l3, l4] ((((call 139 [.ref b, v0] h).getD (none, h)).1).toList ++ st) ((call 139 [.ref b, v0] h).getD (none, h)).2 := by
  obtain ⟨⟨r, h'⟩, hv⟩ := Option.isSome_iff_exists.mp hc
  rw [hv]
  exact je_virt (y := 139) (as := [v0]) D138_16 rfl (by decide) (by decide) rfl hcl hw hv
theorem D138_19 : decode (jt_code 138) 19 = .ok (.astore 4, 2) := by decide +kernel
theorem E138_19 {call : jv_F} {l0 l1 l2 l3 l4 : Option Value} {a : Nat} {st : List Value} {h : jv_H} (hk : ¬ jv_is2 (some l3) = true) : jv_ev call 138 19 [l0, l1, l2, l3, l4] (.ref a :: st) h = jv_ev call 138 21 [l0, l1, l2, l3, some (.ref a)] st h := je_astore (r := some a) D138_19 rfl (Nat.le_of_ble_eq_true rfl) (by show jv_st1 _ 4 _ = _; simp only [jv_st1, jv_kill, List.getElem?_cons_succ, List.getElem?_cons_zero, hk, if_false]; rfl)
theorem E138_19r {call : jv_F} {l0 l1 l2 l3 l4 : Option Value} {r : Option Nat} {st : List Value} {h : jv_H} (hk : ¬ jv_is2 (some l3) = true) : jv_ev call 138 19 [l0, l1, l2, l3, l4] (va_rf r :: st) h = jv_ev call 138 21 [l0, l1, l2, l3, some (va_rf r)] st h := je_astore (r := r) D138_19 rfl (Nat.le_of_ble_eq_true rfl) (by show jv_st1 _ 4 _ = _; simp only [jv_st1, jv_kill, List.getElem?_cons_succ, List.getElem?_cons_zero, hk, if_false]; rfl)
theorem D138_21 : decode (jt_code 138) 21 = .ok (.aload 4, 2) := by decide +kernel
theorem E138_21 {call : jv_F} {l0 l1 l2 l3 : Option Value} {a : Nat} {st : List Value} {h : jv_H} : jv_ev call 138 21 [l0, l1, l2, l3, some (.ref a)] st h = jv_ev call 138 23 [l0, l1, l2, l3, some (.ref a)] (.ref a :: st) h := je_aload (r := some a) D138_21 rfl rfl
theorem E138_21r {call : jv_F} {l0 l1 l2 l3 : Option Value} {r : Option Nat} {st : List Value} {h : jv_H} : jv_ev call 138 21 [l0, l1, l2, l3, some (va_rf r)] st h = jv_ev call 138 23 [l0, l1, l2, l3, some (va_rf r)] (va_rf r :: st) h := je_aload (r := r) D138_21 rfl rfl
theorem D138_23 : decode (jt_code 138) 23 = .ok (.ifnonnull 7, 3) := by decide +kernel
theorem E138_23r {call : jv_F} {l0 l1 l2 l3 l4 : Option Value} {x : Option Nat} {st : List Value} {h : jv_H} : jv_ev call 138 23 [l0, l1, l2, l3, l4] (va_rf x :: st) h = if x = none then jv_ev call 138 26 [l0, l1, l2, l3, l4] st h else jv_ev call 138 30 [l0, l1, l2, l3, l4] st h := je_ifnonnull D138_23 (by decide) rfl
theorem E138_23 {call : jv_F} {l0 l1 l2 l3 l4 : Option Value} {x : Nat} {st : List Value} {h : jv_H} : jv_ev call 138 23 [l0, l1, l2, l3, l4] (.ref x :: st) h = jv_ev call 138 30 [l0, l1, l2, l3, l4] st h := (je_ifnonnull (x := some x) (t := 30) D138_23 (by decide) rfl).trans (if_neg (by simp))
theorem D138_26 : decode (jt_code 138) 26 = .ok (.lload_n 1, 1) := by decide +kernel
theorem E138_26 {call : jv_F} {l0 l2 l3 l4 : Option Value} {x : Int64} {st : List Value} {h : jv_H} : jv_ev call 138 26 [l0, some (.long x), l2, l3, l4] st h = jv_ev call 138 27 [l0, some (.long x), l2, l3, l4] (.long x :: st) h := je_lload_n D138_26 rfl rfl
theorem D138_27 : decode (jt_code 138) 27 = .ok (.goto 9, 3) := by decide +kernel
theorem E138_27 {call : jv_F} {l0 l1 l2 l3 l4 : Option Value}  {st : List Value} {h : jv_H} : jv_ev call 138 27 [l0, l1, l2, l3, l4] st h = jv_ev call 138 36 [l0, l1, l2, l3, l4] st h := je_goto D138_27 (by decide)
theorem D138_30 : decode (jt_code 138) 30 = .ok (.aload 4, 2) := by decide +kernel
theorem E138_30 {call : jv_F} {l0 l1 l2 l3 : Option Value} {a : Nat} {st : List Value} {h : jv_H} : jv_ev call 138 30 [l0, l1, l2, l3, some (.ref a)] st h = jv_ev call 138 32 [l0, l1, l2, l3, some (.ref a)] (.ref a :: st) h := je_aload (r := some a) D138_30 rfl rfl
theorem E138_30r {call : jv_F} {l0 l1 l2 l3 : Option Value} {r : Option Nat} {st : List Value} {h : jv_H} : jv_ev call 138 30 [l0, l1, l2, l3, some (va_rf r)] st h = jv_ev call 138 32 [l0, l1, l2, l3, some (va_rf r)] (va_rf r :: st) h := je_aload (r := r) D138_30 rfl rfl
theorem D138_32 : decode (jt_code 138) 32 = .ok (.lload_n 1, 1) := by decide +kernel
theorem E138_32 {call : jv_F} {l0 l2 l3 l4 : Option Value} {x : Int64} {st : List Value} {h : jv_H} : jv_ev call 138 32 [l0, some (.long x), l2, l3, l4] st h = jv_ev call 138 33 [l0, some (.long x), l2, l3, l4] (.long x :: st) h := je_lload_n D138_32 rfl rfl
theorem D138_33 : decode (jt_code 138) 33 = .ok (.invokevirtual 185, 3) := by decide +kernel
theorem E138_33 {call : jv_F} {l0 l1 l2 l3 l4 : Option Value} {b : Nat} {v0 : Value}  {st : List Value} {h : jv_H} (hw : jv_wide st = true) (hcl : jv_cl h b = some 4) (hc : (call 115 [.ref b, v0] h).isSome = true) : jv_ev call 138 33 [l0, l1, l2, l3, l4] (v0 :: .ref b :: st) h = jv_ev call 138 36 [l0, l1, l2, l3, l4] ((((call 115 [.ref b, v0] h).getD (none, h)).1).toList ++ st) ((call 115 [.ref b, v0] h).getD (none, h)).2 := by
  obtain ⟨⟨r, h'⟩, hv⟩ := Option.isSome_iff_exists.mp hc
  rw [hv]
  exact je_virt (y := 115) (as := [v0]) D138_33 rfl (by decide) (by decide) rfl hcl hw hv
theorem D138_36 : decode (jt_code 138) 36 = .ok (.lstore_n 1, 1) := by decide +kernel
theorem E138_36 {call : jv_F} {l0 l1 l2 l3 l4 : Option Value} {x : Int64} {st : List Value} {h : jv_H} (hk : ¬ jv_is2 (some l0) = true) : jv_ev call 138 36 [l0, l1, l2, l3, l4] (.long x :: st) h = jv_ev call 138 37 [l0, some (.long x), none, l3, l4] st h := je_lstore_n D138_36 rfl (Nat.le_of_ble_eq_true rfl) (by show jv_st2 _ 1 _ = _; simp only [jv_st2, jv_kill, List.getElem?_cons_succ, List.getElem?_cons_zero, hk, if_false]; rfl)
theorem D138_37 : decode (jt_code 138) 37 = .ok (.iinc 3 1, 3) := by decide +kernel
theorem E138_37 {call : jv_F} {l0 l1 l2 l4 : Option Value} {x : Int32} {st : List Value} {h : jv_H} (hk : ¬ jv_is2 (some l2) = true) : jv_ev call 138 37 [l0, l1, l2, some (.int x), l4] st h = jv_ev call 138 40 [l0, l1, l2, some (.int (x + (nI 1))), l4] st h := je_iinc D138_37 rfl rfl (v := x + (nI 1)) (by rfl) (by show jv_st1 _ 3 _ = _; simp only [jv_st1, jv_kill, List.getElem?_cons_succ, List.getElem?_cons_zero, hk, if_false]; rfl)
theorem D138_40 : decode (jt_code 138) 40 = .ok (.goto (-34), 3) := by decide +kernel
theorem E138_40 {call : jv_F} {l0 l1 l2 l3 l4 : Option Value}  {st : List Value} {h : jv_H} : jv_ev call 138 40 [l0, l1, l2, l3, l4] st h = jv_ev call 138 6 [l0, l1, l2, l3, l4] st h := je_goto D138_40 (by decide)
theorem D138_43 : decode (jt_code 138) 43 = .ok (.lload_n 1, 1) := by decide +kernel
theorem E138_43 {call : jv_F} {l0 l2 l3 l4 : Option Value} {x : Int64} {st : List Value} {h : jv_H} : jv_ev call 138 43 [l0, some (.long x), l2, l3, l4] st h = jv_ev call 138 44 [l0, some (.long x), l2, l3, l4] (.long x :: st) h := je_lload_n D138_43 rfl rfl
theorem D138_44 : decode (jt_code 138) 44 = .ok (.ldc2_w 189, 3) := by decide +kernel
theorem E138_44 {call : jv_F} {l0 l1 l2 l3 l4 : Option Value}  {st : List Value} {h : jv_H} : jv_ev call 138 44 [l0, l1, l2, l3, l4] st h = jv_ev call 138 47 [l0, l1, l2, l3, l4] (.long 31 :: st) h := je_ldc2 D138_44 rfl (by decide)
theorem D138_47 : decode (jt_code 138) 47 = .ok (.lmul, 1) := by decide +kernel
theorem E138_47 {call : jv_F} {l0 l1 l2 l3 l4 : Option Value} {x y : Int64} {st : List Value} {h : jv_H} : jv_ev call 138 47 [l0, l1, l2, l3, l4] (.long y :: .long x :: st) h = jv_ev call 138 48 [l0, l1, l2, l3, l4] (.long (x * y) :: st) h := je_l2 (f := fun x y => x * y) D138_47 rfl (fun _ => rfl)
theorem D138_48 : decode (jt_code 138) 48 = .ok (.aload_n 0, 1) := by decide +kernel
theorem E138_48 {call : jv_F} {l1 l2 l3 l4 : Option Value} {a : Nat} {st : List Value} {h : jv_H} : jv_ev call 138 48 [some (.ref a), l1, l2, l3, l4] st h = jv_ev call 138 49 [some (.ref a), l1, l2, l3, l4] (.ref a :: st) h := je_aload_n (r := some a) D138_48 rfl rfl
theorem D138_49 : decode (jt_code 138) 49 = .ok (.getfield 49, 3) := by decide +kernel
theorem E138_49 {call : jv_F} {l0 l1 l2 l3 l4 : Option Value} {a : Nat} {st : List Value} {h : jv_H} (hs : (jv_gf h a 6 8).isSome = true) : jv_ev call 138 49 [l0, l1, l2, l3, l4] (.ref a :: st) h = jv_ev call 138 52 [l0, l1, l2, l3, l4] ((jv_gf h a 6 8).getD .null :: st) h := by
  obtain ⟨v, hv⟩ := Option.isSome_iff_exists.mp hs
  rw [hv]
  exact je_get D138_49 rfl (by decide) hv
theorem D138_52 : decode (jt_code 138) 52 = .ok (.i2l, 1) := by decide +kernel
theorem E138_52 {call : jv_F} {l0 l1 l2 l3 l4 : Option Value} {x : Int32} {st : List Value} {h : jv_H} : jv_ev call 138 52 [l0, l1, l2, l3, l4] (.int x :: st) h = jv_ev call 138 53 [l0, l1, l2, l3, l4] (.long x.toInt64 :: st) h := je_i2l D138_52 rfl
theorem D138_53 : decode (jt_code 138) 53 = .ok (.ladd, 1) := by decide +kernel
theorem E138_53 {call : jv_F} {l0 l1 l2 l3 l4 : Option Value} {x y : Int64} {st : List Value} {h : jv_H} : jv_ev call 138 53 [l0, l1, l2, l3, l4] (.long y :: .long x :: st) h = jv_ev call 138 54 [l0, l1, l2, l3, l4] (.long (x + y) :: st) h := je_l2 (f := fun x y => x + y) D138_53 rfl (fun _ => rfl)
theorem D138_54 : decode (jt_code 138) 54 = .ok (.lstore_n 1, 1) := by decide +kernel
theorem E138_54 {call : jv_F} {l0 l1 l2 l3 l4 : Option Value} {x : Int64} {st : List Value} {h : jv_H} (hk : ¬ jv_is2 (some l0) = true) : jv_ev call 138 54 [l0, l1, l2, l3, l4] (.long x :: st) h = jv_ev call 138 55 [l0, some (.long x), none, l3, l4] st h := je_lstore_n D138_54 rfl (Nat.le_of_ble_eq_true rfl) (by show jv_st2 _ 1 _ = _; simp only [jv_st2, jv_kill, List.getElem?_cons_succ, List.getElem?_cons_zero, hk, if_false]; rfl)
theorem D138_55 : decode (jt_code 138) 55 = .ok (.iconst 0, 1) := by decide +kernel
theorem E138_55 {call : jv_F} {l0 l1 l2 l3 l4 : Option Value}  {st : List Value} {h : jv_H} : jv_ev call 138 55 [l0, l1, l2, l3, l4] st h = jv_ev call 138 56 [l0, l1, l2, l3, l4] (.int (nI 0) :: st) h := je_iconst D138_55 rfl (by decide)
theorem D138_56 : decode (jt_code 138) 56 = .ok (.istore_n 3, 1) := by decide +kernel
theorem E138_56 {call : jv_F} {l0 l1 l2 l3 l4 : Option Value} {x : Int32} {st : List Value} {h : jv_H} (hk : ¬ jv_is2 (some l2) = true) : jv_ev call 138 56 [l0, l1, l2, l3, l4] (.int x :: st) h = jv_ev call 138 57 [l0, l1, l2, some (.int x), l4] st h := je_istore_n D138_56 rfl (Nat.le_of_ble_eq_true rfl) (by show jv_st1 _ 3 _ = _; simp only [jv_st1, jv_kill, List.getElem?_cons_succ, List.getElem?_cons_zero, hk, if_false]; rfl)
theorem D138_57 : decode (jt_code 138) 57 = .ok (.iload_n 3, 1) := by decide +kernel
theorem E138_57 {call : jv_F} {l0 l1 l2 l4 : Option Value} {x : Int32} {st : List Value} {h : jv_H} : jv_ev call 138 57 [l0, l1, l2, some (.int x), l4] st h = jv_ev call 138 58 [l0, l1, l2, some (.int x), l4] (.int x :: st) h := je_iload_n D138_57 rfl rfl
theorem D138_58 : decode (jt_code 138) 58 = .ok (.bipush 7, 2) := by decide +kernel
theorem E138_58 {call : jv_F} {l0 l1 l2 l3 l4 : Option Value}  {st : List Value} {h : jv_H} : jv_ev call 138 58 [l0, l1, l2, l3, l4] st h = jv_ev call 138 60 [l0, l1, l2, l3, l4] (.int (nI 7) :: st) h := je_bipush D138_58 rfl (by decide)
theorem D138_60 : decode (jt_code 138) 60 = .ok (.if_icmp .gt 22, 3) := by decide +kernel
theorem E138_60 {call : jv_F} {l0 l1 l2 l3 l4 : Option Value} {x y : Int32} {st : List Value} {h : jv_H} : jv_ev call 138 60 [l0, l1, l2, l3, l4] (.int y :: .int x :: st) h = if y < x then jv_ev call 138 82 [l0, l1, l2, l3, l4] st h else jv_ev call 138 63 [l0, l1, l2, l3, l4] st h := je_icmp D138_60 (by decide) rfl rfl
theorem D138_63 : decode (jt_code 138) 63 = .ok (.lload_n 1, 1) := by decide +kernel
theorem E138_63 {call : jv_F} {l0 l2 l3 l4 : Option Value} {x : Int64} {st : List Value} {h : jv_H} : jv_ev call 138 63 [l0, some (.long x), l2, l3, l4] st h = jv_ev call 138 64 [l0, some (.long x), l2, l3, l4] (.long x :: st) h := je_lload_n D138_63 rfl rfl
theorem D138_64 : decode (jt_code 138) 64 = .ok (.ldc2_w 189, 3) := by decide +kernel
theorem E138_64 {call : jv_F} {l0 l1 l2 l3 l4 : Option Value}  {st : List Value} {h : jv_H} : jv_ev call 138 64 [l0, l1, l2, l3, l4] st h = jv_ev call 138 67 [l0, l1, l2, l3, l4] (.long 31 :: st) h := je_ldc2 D138_64 rfl (by decide)
theorem D138_67 : decode (jt_code 138) 67 = .ok (.lmul, 1) := by decide +kernel
theorem E138_67 {call : jv_F} {l0 l1 l2 l3 l4 : Option Value} {x y : Int64} {st : List Value} {h : jv_H} : jv_ev call 138 67 [l0, l1, l2, l3, l4] (.long y :: .long x :: st) h = jv_ev call 138 68 [l0, l1, l2, l3, l4] (.long (x * y) :: st) h := je_l2 (f := fun x y => x * y) D138_67 rfl (fun _ => rfl)
theorem D138_68 : decode (jt_code 138) 68 = .ok (.aload_n 0, 1) := by decide +kernel
theorem E138_68 {call : jv_F} {l1 l2 l3 l4 : Option Value} {a : Nat} {st : List Value} {h : jv_H} : jv_ev call 138 68 [some (.ref a), l1, l2, l3, l4] st h = jv_ev call 138 69 [some (.ref a), l1, l2, l3, l4] (.ref a :: st) h := je_aload_n (r := some a) D138_68 rfl rfl
theorem D138_69 : decode (jt_code 138) 69 = .ok (.iload_n 3, 1) := by decide +kernel
theorem E138_69 {call : jv_F} {l0 l1 l2 l4 : Option Value} {x : Int32} {st : List Value} {h : jv_H} : jv_ev call 138 69 [l0, l1, l2, some (.int x), l4] st h = jv_ev call 138 70 [l0, l1, l2, some (.int x), l4] (.int x :: st) h := je_iload_n D138_69 rfl rfl
theorem D138_70 : decode (jt_code 138) 70 = .ok (.invokevirtual 191, 3) := by decide +kernel
theorem E138_70 {call : jv_F} {l0 l1 l2 l3 l4 : Option Value} {b : Nat} {v0 : Value}  {st : List Value} {h : jv_H} (hw : jv_wide st = true) (hcl : jv_cl h b = some 6) (hc : (call 135 [.ref b, v0] h).isSome = true) : jv_ev call 138 70 [l0, l1, l2, l3, l4] (v0 :: .ref b :: st) h = jv_ev call 138 73 [l0, l1, l2, l3, l4] ((((call 135 [.ref b, v0] h).getD (none, h)).1).toList ++ st) ((call 135 [.ref b, v0] h).getD (none, h)).2 := by
  obtain ⟨⟨r, h'⟩, hv⟩ := Option.isSome_iff_exists.mp hc
  rw [hv]
  exact je_virt (y := 135) (as := [v0]) D138_70 rfl (by decide) (by decide) rfl hcl hw hv
theorem D138_73 : decode (jt_code 138) 73 = .ok (.i2l, 1) := by decide +kernel
theorem E138_73 {call : jv_F} {l0 l1 l2 l3 l4 : Option Value} {x : Int32} {st : List Value} {h : jv_H} : jv_ev call 138 73 [l0, l1, l2, l3, l4] (.int x :: st) h = jv_ev call 138 74 [l0, l1, l2, l3, l4] (.long x.toInt64 :: st) h := je_i2l D138_73 rfl
theorem D138_74 : decode (jt_code 138) 74 = .ok (.ladd, 1) := by decide +kernel
theorem E138_74 {call : jv_F} {l0 l1 l2 l3 l4 : Option Value} {x y : Int64} {st : List Value} {h : jv_H} : jv_ev call 138 74 [l0, l1, l2, l3, l4] (.long y :: .long x :: st) h = jv_ev call 138 75 [l0, l1, l2, l3, l4] (.long (x + y) :: st) h := je_l2 (f := fun x y => x + y) D138_74 rfl (fun _ => rfl)
theorem D138_75 : decode (jt_code 138) 75 = .ok (.lstore_n 1, 1) := by decide +kernel
theorem E138_75 {call : jv_F} {l0 l1 l2 l3 l4 : Option Value} {x : Int64} {st : List Value} {h : jv_H} (hk : ¬ jv_is2 (some l0) = true) : jv_ev call 138 75 [l0, l1, l2, l3, l4] (.long x :: st) h = jv_ev call 138 76 [l0, some (.long x), none, l3, l4] st h := je_lstore_n D138_75 rfl (Nat.le_of_ble_eq_true rfl) (by show jv_st2 _ 1 _ = _; simp only [jv_st2, jv_kill, List.getElem?_cons_succ, List.getElem?_cons_zero, hk, if_false]; rfl)
theorem D138_76 : decode (jt_code 138) 76 = .ok (.iinc 3 1, 3) := by decide +kernel
theorem E138_76 {call : jv_F} {l0 l1 l2 l4 : Option Value} {x : Int32} {st : List Value} {h : jv_H} (hk : ¬ jv_is2 (some l2) = true) : jv_ev call 138 76 [l0, l1, l2, some (.int x), l4] st h = jv_ev call 138 79 [l0, l1, l2, some (.int (x + (nI 1))), l4] st h := je_iinc D138_76 rfl rfl (v := x + (nI 1)) (by rfl) (by show jv_st1 _ 3 _ = _; simp only [jv_st1, jv_kill, List.getElem?_cons_succ, List.getElem?_cons_zero, hk, if_false]; rfl)
theorem D138_79 : decode (jt_code 138) 79 = .ok (.goto (-22), 3) := by decide +kernel
theorem E138_79 {call : jv_F} {l0 l1 l2 l3 l4 : Option Value}  {st : List Value} {h : jv_H} : jv_ev call 138 79 [l0, l1, l2, l3, l4] st h = jv_ev call 138 57 [l0, l1, l2, l3, l4] st h := je_goto D138_79 (by decide)
theorem D138_82 : decode (jt_code 138) 82 = .ok (.iconst 0, 1) := by decide +kernel
theorem E138_82 {call : jv_F} {l0 l1 l2 l3 l4 : Option Value}  {st : List Value} {h : jv_H} : jv_ev call 138 82 [l0, l1, l2, l3, l4] st h = jv_ev call 138 83 [l0, l1, l2, l3, l4] (.int (nI 0) :: st) h := je_iconst D138_82 rfl (by decide)
theorem D138_83 : decode (jt_code 138) 83 = .ok (.istore_n 3, 1) := by decide +kernel
theorem E138_83 {call : jv_F} {l0 l1 l2 l3 l4 : Option Value} {x : Int32} {st : List Value} {h : jv_H} (hk : ¬ jv_is2 (some l2) = true) : jv_ev call 138 83 [l0, l1, l2, l3, l4] (.int x :: st) h = jv_ev call 138 84 [l0, l1, l2, some (.int x), l4] st h := je_istore_n D138_83 rfl (Nat.le_of_ble_eq_true rfl) (by show jv_st1 _ 3 _ = _; simp only [jv_st1, jv_kill, List.getElem?_cons_succ, List.getElem?_cons_zero, hk, if_false]; rfl)
theorem D138_84 : decode (jt_code 138) 84 = .ok (.iload_n 3, 1) := by decide +kernel
theorem E138_84 {call : jv_F} {l0 l1 l2 l4 : Option Value} {x : Int32} {st : List Value} {h : jv_H} : jv_ev call 138 84 [l0, l1, l2, some (.int x), l4] st h = jv_ev call 138 85 [l0, l1, l2, some (.int x), l4] (.int x :: st) h := je_iload_n D138_84 rfl rfl
theorem D138_85 : decode (jt_code 138) 85 = .ok (.aload_n 0, 1) := by decide +kernel
theorem E138_85 {call : jv_F} {l1 l2 l3 l4 : Option Value} {a : Nat} {st : List Value} {h : jv_H} : jv_ev call 138 85 [some (.ref a), l1, l2, l3, l4] st h = jv_ev call 138 86 [some (.ref a), l1, l2, l3, l4] (.ref a :: st) h := je_aload_n (r := some a) D138_85 rfl rfl
theorem D138_86 : decode (jt_code 138) 86 = .ok (.getfield 19, 3) := by decide +kernel
theorem E138_86 {call : jv_F} {l0 l1 l2 l3 l4 : Option Value} {a : Nat} {st : List Value} {h : jv_H} (hs : (jv_gf h a 6 1).isSome = true) : jv_ev call 138 86 [l0, l1, l2, l3, l4] (.ref a :: st) h = jv_ev call 138 89 [l0, l1, l2, l3, l4] ((jv_gf h a 6 1).getD .null :: st) h := by
  obtain ⟨v, hv⟩ := Option.isSome_iff_exists.mp hs
  rw [hv]
  exact je_get D138_86 rfl (by decide) hv
theorem D138_89 : decode (jt_code 138) 89 = .ok (.getfield 156, 3) := by decide +kernel
theorem E138_89 {call : jv_F} {l0 l1 l2 l3 l4 : Option Value} {a : Nat} {st : List Value} {h : jv_H} (hs : (jv_gf h a 2 1).isSome = true) : jv_ev call 138 89 [l0, l1, l2, l3, l4] (.ref a :: st) h = jv_ev call 138 92 [l0, l1, l2, l3, l4] ((jv_gf h a 2 1).getD .null :: st) h := by
  obtain ⟨v, hv⟩ := Option.isSome_iff_exists.mp hs
  rw [hv]
  exact je_get D138_89 rfl (by decide) hv
theorem D138_92 : decode (jt_code 138) 92 = .ok (.if_icmp .ge 39, 3) := by decide +kernel
theorem E138_92 {call : jv_F} {l0 l1 l2 l3 l4 : Option Value} {x y : Int32} {st : List Value} {h : jv_H} : jv_ev call 138 92 [l0, l1, l2, l3, l4] (.int y :: .int x :: st) h = if y ≤ x then jv_ev call 138 131 [l0, l1, l2, l3, l4] st h else jv_ev call 138 95 [l0, l1, l2, l3, l4] st h := je_icmp D138_92 (by decide) rfl rfl
theorem D138_95 : decode (jt_code 138) 95 = .ok (.iconst 0, 1) := by decide +kernel
theorem E138_95 {call : jv_F} {l0 l1 l2 l3 l4 : Option Value}  {st : List Value} {h : jv_H} : jv_ev call 138 95 [l0, l1, l2, l3, l4] st h = jv_ev call 138 96 [l0, l1, l2, l3, l4] (.int (nI 0) :: st) h := je_iconst D138_95 rfl (by decide)
theorem D138_96 : decode (jt_code 138) 96 = .ok (.istore 4, 2) := by decide +kernel
theorem E138_96 {call : jv_F} {l0 l1 l2 l3 l4 : Option Value} {x : Int32} {st : List Value} {h : jv_H} (hk : ¬ jv_is2 (some l3) = true) : jv_ev call 138 96 [l0, l1, l2, l3, l4] (.int x :: st) h = jv_ev call 138 98 [l0, l1, l2, l3, some (.int x)] st h := je_istore D138_96 rfl (Nat.le_of_ble_eq_true rfl) (by show jv_st1 _ 4 _ = _; simp only [jv_st1, jv_kill, List.getElem?_cons_succ, List.getElem?_cons_zero, hk, if_false]; rfl)
theorem D138_98 : decode (jt_code 138) 98 = .ok (.iload 4, 2) := by decide +kernel
theorem E138_98 {call : jv_F} {l0 l1 l2 l3 : Option Value} {x : Int32} {st : List Value} {h : jv_H} : jv_ev call 138 98 [l0, l1, l2, l3, some (.int x)] st h = jv_ev call 138 100 [l0, l1, l2, l3, some (.int x)] (.int x :: st) h := je_iload D138_98 rfl rfl
theorem D138_100 : decode (jt_code 138) 100 = .ok (.iconst 4, 1) := by decide +kernel
theorem E138_100 {call : jv_F} {l0 l1 l2 l3 l4 : Option Value}  {st : List Value} {h : jv_H} : jv_ev call 138 100 [l0, l1, l2, l3, l4] st h = jv_ev call 138 101 [l0, l1, l2, l3, l4] (.int (nI 4) :: st) h := je_iconst D138_100 rfl (by decide)
theorem D138_101 : decode (jt_code 138) 101 = .ok (.if_icmp .gt 24, 3) := by decide +kernel
theorem E138_101 {call : jv_F} {l0 l1 l2 l3 l4 : Option Value} {x y : Int32} {st : List Value} {h : jv_H} : jv_ev call 138 101 [l0, l1, l2, l3, l4] (.int y :: .int x :: st) h = if y < x then jv_ev call 138 125 [l0, l1, l2, l3, l4] st h else jv_ev call 138 104 [l0, l1, l2, l3, l4] st h := je_icmp D138_101 (by decide) rfl rfl
theorem D138_104 : decode (jt_code 138) 104 = .ok (.lload_n 1, 1) := by decide +kernel
theorem E138_104 {call : jv_F} {l0 l2 l3 l4 : Option Value} {x : Int64} {st : List Value} {h : jv_H} : jv_ev call 138 104 [l0, some (.long x), l2, l3, l4] st h = jv_ev call 138 105 [l0, some (.long x), l2, l3, l4] (.long x :: st) h := je_lload_n D138_104 rfl rfl
theorem D138_105 : decode (jt_code 138) 105 = .ok (.ldc2_w 189, 3) := by decide +kernel
theorem E138_105 {call : jv_F} {l0 l1 l2 l3 l4 : Option Value}  {st : List Value} {h : jv_H} : jv_ev call 138 105 [l0, l1, l2, l3, l4] st h = jv_ev call 138 108 [l0, l1, l2, l3, l4] (.long 31 :: st) h := je_ldc2 D138_105 rfl (by decide)
theorem D138_108 : decode (jt_code 138) 108 = .ok (.lmul, 1) := by decide +kernel
theorem E138_108 {call : jv_F} {l0 l1 l2 l3 l4 : Option Value} {x y : Int64} {st : List Value} {h : jv_H} : jv_ev call 138 108 [l0, l1, l2, l3, l4] (.long y :: .long x :: st) h = jv_ev call 138 109 [l0, l1, l2, l3, l4] (.long (x * y) :: st) h := je_l2 (f := fun x y => x * y) D138_108 rfl (fun _ => rfl)
theorem D138_109 : decode (jt_code 138) 109 = .ok (.aload_n 0, 1) := by decide +kernel
theorem E138_109 {call : jv_F} {l1 l2 l3 l4 : Option Value} {a : Nat} {st : List Value} {h : jv_H} : jv_ev call 138 109 [some (.ref a), l1, l2, l3, l4] st h = jv_ev call 138 110 [some (.ref a), l1, l2, l3, l4] (.ref a :: st) h := je_aload_n (r := some a) D138_109 rfl rfl
theorem D138_110 : decode (jt_code 138) 110 = .ok (.iload_n 3, 1) := by decide +kernel
theorem E138_110 {call : jv_F} {l0 l1 l2 l4 : Option Value} {x : Int32} {st : List Value} {h : jv_H} : jv_ev call 138 110 [l0, l1, l2, some (.int x), l4] st h = jv_ev call 138 111 [l0, l1, l2, some (.int x), l4] (.int x :: st) h := je_iload_n D138_110 rfl rfl
theorem D138_111 : decode (jt_code 138) 111 = .ok (.iload 4, 2) := by decide +kernel
theorem E138_111 {call : jv_F} {l0 l1 l2 l3 : Option Value} {x : Int32} {st : List Value} {h : jv_H} : jv_ev call 138 111 [l0, l1, l2, l3, some (.int x)] st h = jv_ev call 138 113 [l0, l1, l2, l3, some (.int x)] (.int x :: st) h := je_iload D138_111 rfl rfl
theorem D138_113 : decode (jt_code 138) 113 = .ok (.invokevirtual 194, 3) := by decide +kernel
theorem E138_113 {call : jv_F} {l0 l1 l2 l3 l4 : Option Value} {b : Nat} {v0 v1 : Value}  {st : List Value} {h : jv_H} (hw : jv_wide st = true) (hcl : jv_cl h b = some 6) (hc : (call 136 [.ref b, v0, v1] h).isSome = true) : jv_ev call 138 113 [l0, l1, l2, l3, l4] (v1 :: v0 :: .ref b :: st) h = jv_ev call 138 116 [l0, l1, l2, l3, l4] ((((call 136 [.ref b, v0, v1] h).getD (none, h)).1).toList ++ st) ((call 136 [.ref b, v0, v1] h).getD (none, h)).2 := by
  obtain ⟨⟨r, h'⟩, hv⟩ := Option.isSome_iff_exists.mp hc
  rw [hv]
  exact je_virt (y := 136) (as := [v0, v1]) D138_113 rfl (by decide) (by decide) rfl hcl hw hv
theorem D138_116 : decode (jt_code 138) 116 = .ok (.i2l, 1) := by decide +kernel
theorem E138_116 {call : jv_F} {l0 l1 l2 l3 l4 : Option Value} {x : Int32} {st : List Value} {h : jv_H} : jv_ev call 138 116 [l0, l1, l2, l3, l4] (.int x :: st) h = jv_ev call 138 117 [l0, l1, l2, l3, l4] (.long x.toInt64 :: st) h := je_i2l D138_116 rfl
theorem D138_117 : decode (jt_code 138) 117 = .ok (.ladd, 1) := by decide +kernel
theorem E138_117 {call : jv_F} {l0 l1 l2 l3 l4 : Option Value} {x y : Int64} {st : List Value} {h : jv_H} : jv_ev call 138 117 [l0, l1, l2, l3, l4] (.long y :: .long x :: st) h = jv_ev call 138 118 [l0, l1, l2, l3, l4] (.long (x + y) :: st) h := je_l2 (f := fun x y => x + y) D138_117 rfl (fun _ => rfl)
theorem D138_118 : decode (jt_code 138) 118 = .ok (.lstore_n 1, 1) := by decide +kernel
theorem E138_118 {call : jv_F} {l0 l1 l2 l3 l4 : Option Value} {x : Int64} {st : List Value} {h : jv_H} (hk : ¬ jv_is2 (some l0) = true) : jv_ev call 138 118 [l0, l1, l2, l3, l4] (.long x :: st) h = jv_ev call 138 119 [l0, some (.long x), none, l3, l4] st h := je_lstore_n D138_118 rfl (Nat.le_of_ble_eq_true rfl) (by show jv_st2 _ 1 _ = _; simp only [jv_st2, jv_kill, List.getElem?_cons_succ, List.getElem?_cons_zero, hk, if_false]; rfl)
theorem D138_119 : decode (jt_code 138) 119 = .ok (.iinc 4 1, 3) := by decide +kernel
theorem E138_119 {call : jv_F} {l0 l1 l2 l3 : Option Value} {x : Int32} {st : List Value} {h : jv_H} (hk : ¬ jv_is2 (some l3) = true) : jv_ev call 138 119 [l0, l1, l2, l3, some (.int x)] st h = jv_ev call 138 122 [l0, l1, l2, l3, some (.int (x + (nI 1)))] st h := je_iinc D138_119 rfl rfl (v := x + (nI 1)) (by rfl) (by show jv_st1 _ 4 _ = _; simp only [jv_st1, jv_kill, List.getElem?_cons_succ, List.getElem?_cons_zero, hk, if_false]; rfl)
theorem D138_122 : decode (jt_code 138) 122 = .ok (.goto (-24), 3) := by decide +kernel
theorem E138_122 {call : jv_F} {l0 l1 l2 l3 l4 : Option Value}  {st : List Value} {h : jv_H} : jv_ev call 138 122 [l0, l1, l2, l3, l4] st h = jv_ev call 138 98 [l0, l1, l2, l3, l4] st h := je_goto D138_122 (by decide)
theorem D138_125 : decode (jt_code 138) 125 = .ok (.iinc 3 1, 3) := by decide +kernel
theorem E138_125 {call : jv_F} {l0 l1 l2 l4 : Option Value} {x : Int32} {st : List Value} {h : jv_H} (hk : ¬ jv_is2 (some l2) = true) : jv_ev call 138 125 [l0, l1, l2, some (.int x), l4] st h = jv_ev call 138 128 [l0, l1, l2, some (.int (x + (nI 1))), l4] st h := je_iinc D138_125 rfl rfl (v := x + (nI 1)) (by rfl) (by show jv_st1 _ 3 _ = _; simp only [jv_st1, jv_kill, List.getElem?_cons_succ, List.getElem?_cons_zero, hk, if_false]; rfl)
theorem D138_128 : decode (jt_code 138) 128 = .ok (.goto (-44), 3) := by decide +kernel
theorem E138_128 {call : jv_F} {l0 l1 l2 l3 l4 : Option Value}  {st : List Value} {h : jv_H} : jv_ev call 138 128 [l0, l1, l2, l3, l4] st h = jv_ev call 138 84 [l0, l1, l2, l3, l4] st h := je_goto D138_128 (by decide)
theorem D138_131 : decode (jt_code 138) 131 = .ok (.lload_n 1, 1) := by decide +kernel
theorem E138_131 {call : jv_F} {l0 l2 l3 l4 : Option Value} {x : Int64} {st : List Value} {h : jv_H} : jv_ev call 138 131 [l0, some (.long x), l2, l3, l4] st h = jv_ev call 138 132 [l0, some (.long x), l2, l3, l4] (.long x :: st) h := je_lload_n D138_131 rfl rfl
theorem D138_132 : decode (jt_code 138) 132 = .ok (.lreturn, 1) := by decide +kernel
theorem E138_132 {call : jv_F} {l0 l1 l2 l3 l4 : Option Value} {v : Int64} {h : jv_H} : jv_ev call 138 132 [l0, l1, l2, l3, l4] [.long v] h = some (some (.long v), h) := je_lret D138_132 rfl
/-! method 139: DrumMachine.find -/
theorem N139 {d : Nat} {b : Nat} {a0 : Int32} {h : jv_H} : jv_run (d + 1) 139 [.ref b, .int a0] h = jv_ev (jv_run d) 139 0 [some (.ref b), some (.int a0)] [] h := jv_run_eq (Nat.le_of_ble_eq_true rfl) rfl
theorem D139_0 : decode (jt_code 139) 0 = .ok (.iload_n 1, 1) := by decide +kernel
theorem E139_0 {call : jv_F} {l0 : Option Value} {x : Int32} {st : List Value} {h : jv_H} : jv_ev call 139 0 [l0, some (.int x)] st h = jv_ev call 139 1 [l0, some (.int x)] (.int x :: st) h := je_iload_n D139_0 rfl rfl
theorem D139_1 : decode (jt_code 139) 1 = .ok (.ifCond .lt 26, 3) := by decide +kernel
theorem E139_1 {call : jv_F} {l0 l1 : Option Value} {x : Int32} {st : List Value} {h : jv_H} : jv_ev call 139 1 [l0, l1] (.int x :: st) h = if x < 0 then jv_ev call 139 27 [l0, l1] st h else jv_ev call 139 4 [l0, l1] st h := je_ifc D139_1 (by decide) rfl rfl
theorem D139_4 : decode (jt_code 139) 4 = .ok (.iload_n 1, 1) := by decide +kernel
theorem E139_4 {call : jv_F} {l0 : Option Value} {x : Int32} {st : List Value} {h : jv_H} : jv_ev call 139 4 [l0, some (.int x)] st h = jv_ev call 139 5 [l0, some (.int x)] (.int x :: st) h := je_iload_n D139_4 rfl rfl
theorem D139_5 : decode (jt_code 139) 5 = .ok (.aload_n 0, 1) := by decide +kernel
theorem E139_5 {call : jv_F} {l1 : Option Value} {a : Nat} {st : List Value} {h : jv_H} : jv_ev call 139 5 [some (.ref a), l1] st h = jv_ev call 139 6 [some (.ref a), l1] (.ref a :: st) h := je_aload_n (r := some a) D139_5 rfl rfl
theorem D139_6 : decode (jt_code 139) 6 = .ok (.getfield 36, 3) := by decide +kernel
theorem E139_6 {call : jv_F} {l0 l1 : Option Value} {a : Nat} {st : List Value} {h : jv_H} (hs : (jv_gf h a 6 4).isSome = true) : jv_ev call 139 6 [l0, l1] (.ref a :: st) h = jv_ev call 139 9 [l0, l1] ((jv_gf h a 6 4).getD .null :: st) h := by
  obtain ⟨v, hv⟩ := Option.isSome_iff_exists.mp hs
  rw [hv]
  exact je_get D139_6 rfl (by decide) hv
theorem D139_9 : decode (jt_code 139) 9 = .ok (.if_icmp .ge 18, 3) := by decide +kernel
theorem E139_9 {call : jv_F} {l0 l1 : Option Value} {x y : Int32} {st : List Value} {h : jv_H} : jv_ev call 139 9 [l0, l1] (.int y :: .int x :: st) h = if y ≤ x then jv_ev call 139 27 [l0, l1] st h else jv_ev call 139 12 [l0, l1] st h := je_icmp D139_9 (by decide) rfl rfl
theorem D139_12 : decode (jt_code 139) 12 = .ok (.iload_n 1, 1) := by decide +kernel
theorem E139_12 {call : jv_F} {l0 : Option Value} {x : Int32} {st : List Value} {h : jv_H} : jv_ev call 139 12 [l0, some (.int x)] st h = jv_ev call 139 13 [l0, some (.int x)] (.int x :: st) h := je_iload_n D139_12 rfl rfl
theorem D139_13 : decode (jt_code 139) 13 = .ok (.bipush 12, 2) := by decide +kernel
theorem E139_13 {call : jv_F} {l0 l1 : Option Value}  {st : List Value} {h : jv_H} : jv_ev call 139 13 [l0, l1] st h = jv_ev call 139 15 [l0, l1] (.int (nI 12) :: st) h := je_bipush D139_13 rfl (by decide)
theorem D139_15 : decode (jt_code 139) 15 = .ok (.if_icmp .ge 12, 3) := by decide +kernel
theorem E139_15 {call : jv_F} {l0 l1 : Option Value} {x y : Int32} {st : List Value} {h : jv_H} : jv_ev call 139 15 [l0, l1] (.int y :: .int x :: st) h = if y ≤ x then jv_ev call 139 27 [l0, l1] st h else jv_ev call 139 18 [l0, l1] st h := je_icmp D139_15 (by decide) rfl rfl
theorem D139_18 : decode (jt_code 139) 18 = .ok (.aload_n 0, 1) := by decide +kernel
theorem E139_18 {call : jv_F} {l1 : Option Value} {a : Nat} {st : List Value} {h : jv_H} : jv_ev call 139 18 [some (.ref a), l1] st h = jv_ev call 139 19 [some (.ref a), l1] (.ref a :: st) h := je_aload_n (r := some a) D139_18 rfl rfl
theorem D139_19 : decode (jt_code 139) 19 = .ok (.getfield 32, 3) := by decide +kernel
theorem E139_19 {call : jv_F} {l0 l1 : Option Value} {a : Nat} {st : List Value} {h : jv_H} (hs : (jv_gf h a 6 3).isSome = true) : jv_ev call 139 19 [l0, l1] (.ref a :: st) h = jv_ev call 139 22 [l0, l1] ((jv_gf h a 6 3).getD .null :: st) h := by
  obtain ⟨v, hv⟩ := Option.isSome_iff_exists.mp hs
  rw [hv]
  exact je_get D139_19 rfl (by decide) hv
theorem D139_22 : decode (jt_code 139) 22 = .ok (.iload_n 1, 1) := by decide +kernel
theorem E139_22 {call : jv_F} {l0 : Option Value} {x : Int32} {st : List Value} {h : jv_H} : jv_ev call 139 22 [l0, some (.int x)] st h = jv_ev call 139 23 [l0, some (.int x)] (.int x :: st) h := je_iload_n D139_22 rfl rfl
theorem D139_23 : decode (jt_code 139) 23 = .ok (.aaload, 1) := by decide +kernel
theorem E139_23 {call : jv_F} {l0 l1 : Option Value} {a : Nat} {j : Int32} {C : String} {st : List Value} {h : jv_H} (hC : jv_kn h a = some C) (hs : (jv_al h a (.object C) j).isSome = true) : jv_ev call 139 23 [l0, l1] (.int j :: .ref a :: st) h = jv_ev call 139 24 [l0, l1] ((jv_al h a (.object C) j).getD .null :: st) h := by
  obtain ⟨v, hv⟩ := Option.isSome_iff_exists.mp hs
  rw [hv]
  exact je_aald D139_23 rfl hC hv
theorem D139_24 : decode (jt_code 139) 24 = .ok (.goto 4, 3) := by decide +kernel
theorem E139_24 {call : jv_F} {l0 l1 : Option Value}  {st : List Value} {h : jv_H} : jv_ev call 139 24 [l0, l1] st h = jv_ev call 139 28 [l0, l1] st h := je_goto D139_24 (by decide)
theorem D139_27 : decode (jt_code 139) 27 = .ok (.aconst_null, 1) := by decide +kernel
theorem E139_27 {call : jv_F} {l0 l1 : Option Value}  {st : List Value} {h : jv_H} : jv_ev call 139 27 [l0, l1] st h = jv_ev call 139 28 [l0, l1] (.null :: st) h := je_null D139_27 rfl
theorem D139_28 : decode (jt_code 139) 28 = .ok (.areturn, 1) := by decide +kernel
theorem E139_28r {call : jv_F} {l0 l1 : Option Value} {r : Option Nat} {h : jv_H} : jv_ev call 139 28 [l0, l1] [va_rf r] h = some (some (va_rf r), h) := je_aret D139_28 rfl
theorem E139_28 {call : jv_F} {l0 l1 : Option Value} {a : Nat} {h : jv_H} : jv_ev call 139 28 [l0, l1] [.ref a] h = some (some (.ref a), h) := je_aret (r := some a) D139_28 rfl
theorem E139_28n {call : jv_F} {l0 l1 : Option Value}  {h : jv_H} : jv_ev call 139 28 [l0, l1] [.null] h = some (some .null, h) := je_aret (r := none) D139_28 rfl
/-! method 157: java/lang/Math.min -/
theorem N157 {d : Nat} {a0 : Int32} {a1 : Int32} {h : jv_H} : jv_run (d + 1) 157 [.int a0, .int a1] h = jv_ev (jv_run d) 157 0 [some (.int a0), some (.int a1)] [] h := jv_run_eq (Nat.le_of_ble_eq_true rfl) rfl
theorem D157_0 : decode (jt_code 157) 0 = .ok (.iload_n 0, 1) := by decide +kernel
theorem E157_0 {call : jv_F} {l1 : Option Value} {x : Int32} {st : List Value} {h : jv_H} : jv_ev call 157 0 [some (.int x), l1] st h = jv_ev call 157 1 [some (.int x), l1] (.int x :: st) h := je_iload_n D157_0 rfl rfl
theorem D157_1 : decode (jt_code 157) 1 = .ok (.iload_n 1, 1) := by decide +kernel
theorem E157_1 {call : jv_F} {l0 : Option Value} {x : Int32} {st : List Value} {h : jv_H} : jv_ev call 157 1 [l0, some (.int x)] st h = jv_ev call 157 2 [l0, some (.int x)] (.int x :: st) h := je_iload_n D157_1 rfl rfl
theorem D157_2 : decode (jt_code 157) 2 = .ok (.if_icmp .gt 7, 3) := by decide +kernel
theorem E157_2 {call : jv_F} {l0 l1 : Option Value} {x y : Int32} {st : List Value} {h : jv_H} : jv_ev call 157 2 [l0, l1] (.int y :: .int x :: st) h = if y < x then jv_ev call 157 9 [l0, l1] st h else jv_ev call 157 5 [l0, l1] st h := je_icmp D157_2 (by decide) rfl rfl
theorem D157_5 : decode (jt_code 157) 5 = .ok (.iload_n 0, 1) := by decide +kernel
theorem E157_5 {call : jv_F} {l1 : Option Value} {x : Int32} {st : List Value} {h : jv_H} : jv_ev call 157 5 [some (.int x), l1] st h = jv_ev call 157 6 [some (.int x), l1] (.int x :: st) h := je_iload_n D157_5 rfl rfl
theorem D157_6 : decode (jt_code 157) 6 = .ok (.goto 4, 3) := by decide +kernel
theorem E157_6 {call : jv_F} {l0 l1 : Option Value}  {st : List Value} {h : jv_H} : jv_ev call 157 6 [l0, l1] st h = jv_ev call 157 10 [l0, l1] st h := je_goto D157_6 (by decide)
theorem D157_9 : decode (jt_code 157) 9 = .ok (.iload_n 1, 1) := by decide +kernel
theorem E157_9 {call : jv_F} {l0 : Option Value} {x : Int32} {st : List Value} {h : jv_H} : jv_ev call 157 9 [l0, some (.int x)] st h = jv_ev call 157 10 [l0, some (.int x)] (.int x :: st) h := je_iload_n D157_9 rfl rfl
theorem D157_10 : decode (jt_code 157) 10 = .ok (.ireturn, 1) := by decide +kernel
theorem E157_10 {call : jv_F} {l0 l1 : Option Value} {v : Int32} {h : jv_H} : jv_ev call 157 10 [l0, l1] [.int v] h = some (some (.int v), h) := je_iret (ty := .int) D157_10 rfl rfl rfl
