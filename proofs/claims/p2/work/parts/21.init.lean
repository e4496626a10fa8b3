/-! the constructors -/
section JI
variable {d b y : Nat} {f : Nat → Option jv_C} {cs : List jv_C}
def jc_tray (b : Nat) : List jv_C := [.inl (5, [.ref (b + 1), .ref (b + 2), .int (nI 0), .int (nI 0)]), .inr (1, 1000, fun _ => .long 0), .inr (0, 2000, fun _ => .int 0)]
theorem jx_Tray_init : jv_run (d + 1) 116 [.ref b] (jv_U f b [.inl (5, jt_dfl 5)] y) = some (none, jv_U f b (jc_tray b) (y + 3000)) := by
  rw [N116]
  simp (disch := first | omega | exact id rfl | exact id (Nat.le_of_ble_eq_true rfl) | (simp (disch := first | exact id rfl | exact id (Nat.le_of_ble_eq_true rfl)) only [jv_U_pf0, Option.isSome_some])) only [E116_0, E116_1, E116_4, E116_5, E116_8, E116_10, E116_13, E116_14, E116_17, E116_19, E116_22, E116_23, E116_24, E116_27, E116_28, E116_29, E116_32, jv_U_newa, jv_U_sz, jv_U_pf0, Option.getD_some]
  rfl
def jc_core (b : Nat) : List jv_C := [.inl (2, [.ref (b + 1), .int (nI 7), .int (nI 7), .int (nI 0)]), .inr (3, 17, fun _ => .null)]
theorem jx_Core_init : jv_run (d + 1) 66 [.ref b] (jv_U f b [.inl (2, jt_dfl 2)] y) = some (none, jv_U f b (jc_core b) (y + 17)) := by
  rw [N66]
  simp (disch := first | omega | exact id rfl | exact id (Nat.le_of_ble_eq_true rfl) | (simp (disch := first | exact id rfl | exact id (Nat.le_of_ble_eq_true rfl)) only [jv_U_pf0, Option.isSome_some])) only [E66_0, E66_1, E66_4, E66_5, E66_7, E66_10, E66_13, E66_14, E66_16, E66_19, E66_20, E66_22, E66_25, E66_26, E66_27, E66_30, jv_U_newa, jv_U_sz, jv_U_pf0, Option.getD_some]
  rfl
def jc_drum (b : Nat) : List jv_C := [.inl (3, [.ref (b + 1), .ref (b + 2), .int (nI 0), .null, .int (nI 0), .int (nI 0), .int (nI 0), .int (nI 0)]), .inr (3, 64, fun _ => .null), .inr (3, 17, fun _ => .null)]
theorem jx_Drum_init : jv_run (d + 1) 76 [.ref b] (jv_U f b [.inl (3, jt_dfl 3)] y) = some (none, jv_U f b (jc_drum b) (y + 64 + 17)) := by
  rw [N76]
  simp (disch := first | omega | exact id rfl | exact id (Nat.le_of_ble_eq_true rfl) | (simp (disch := first | exact id rfl | exact id (Nat.le_of_ble_eq_true rfl)) only [jv_U_pf0, Option.isSome_some])) only [E76_0, E76_1, E76_4, E76_5, E76_7, E76_10, E76_13, E76_14, E76_16, E76_19, E76_22, E76_23, E76_24, E76_27, E76_28, E76_29, E76_32, E76_33, E76_34, E76_37, E76_38, E76_39, E76_42, E76_43, E76_44, E76_47, E76_48, E76_49, E76_52, jv_U_newa, jv_U_sz, jv_U_pf0, Option.getD_some]
  rfl
theorem jx_Tray_init' : jv_run (d + 1) 116 [.ref (b + cs.length)] (jv_U f b (cs ++ [.inl (5, jt_dfl 5)]) y) = some (none, jv_U f b (cs ++ jc_tray (b + cs.length)) (y + 3000)) := by
  rw [jv_U_base, jx_Tray_init, ← jv_U_base]
theorem jx_Core_init' : jv_run (d + 1) 66 [.ref (b + cs.length)] (jv_U f b (cs ++ [.inl (2, jt_dfl 2)]) y) = some (none, jv_U f b (cs ++ jc_core (b + cs.length)) (y + 17)) := by
  rw [jv_U_base, jx_Core_init, ← jv_U_base]
theorem jx_Drum_init' : jv_run (d + 1) 76 [.ref (b + cs.length)] (jv_U f b (cs ++ [.inl (3, jt_dfl 3)]) y) = some (none, jv_U f b (cs ++ jc_drum (b + cs.length)) (y + 64 + 17)) := by
  rw [jv_U_base, jx_Drum_init, ← jv_U_base]
def jc_ob (a0 a1 a2 a3 : Value) : jv_C := .inl (6, [a0, a1, a2, a3, .int 0, .int 0, .int 0, .int 0, .int 0, .int 0, .int 0, .int 0])
def jc_mach (b : Nat) : List jv_C := .inl (6, [.ref (b + 1), .ref (b + 4), .ref (b + 6), .ref (b + 9), .int (nI 0), .int (nI 0), .int (nI 0), .int (-1), .int (nI 0), .int (nI 0), .int (nI 0), .int (nI 0)]) :: (jc_tray (b + 1) ++ (jc_core (b + 4) ++ (jc_drum (b + 6) ++ [.inr (4, 12, fun _ => .null)])))
theorem jt_dl0 : (jt_dfl 0).length = 44 := rfl
theorem jt_dl2 : (jt_dfl 2).length = 4 := rfl
theorem jt_dl3 : (jt_dfl 3).length = 8 := rfl
theorem jt_dl5 : (jt_dfl 5).length = 4 := rfl
theorem jt_dl6 : (jt_dfl 6).length = 12 := rfl
theorem jx_Mach_1 : jv_ev (jv_run (d + 1)) 122 0 [some (.ref b)] [] (jv_U f b [.inl (6, jt_dfl 6)] y) = jv_ev (jv_run (d + 1)) 122 15 [some (.ref b)] [] (jv_U f b (jc_ob (.ref (b + 1)) .null .null .null :: jc_tray (b + 1)) (y + 4 + 3000)) := by
  have e := jx_Tray_init' (d := d) (b := b) (y := y + 4) (f := f) (cs := [.inl (6, jt_dfl 6)])
  simp (disch := first | omega | exact id rfl | exact id (Nat.le_of_ble_eq_true rfl) | (simp (disch := first | exact id rfl | exact id (Nat.le_of_ble_eq_true rfl)) only [jv_U_pf0, Option.isSome_some])) only [E122_0, E122_1, E122_4, E122_5, jv_U_new, jv_U_sz, E122_8, jt_dl5]
  rw [E122_9 rfl (by rw [e]; rfl), e]
  simp (disch := first | omega | exact id rfl | exact id (Nat.le_of_ble_eq_true rfl) | (simp (disch := first | exact id rfl | exact id (Nat.le_of_ble_eq_true rfl)) only [jv_U_pf0, Option.isSome_some])) only [Option.getD_some, Option.toList_none, List.nil_append, E122_12, jv_U_pf0]
  rfl
theorem jx_Mach_2 {a0 : Value} {cs : List jv_C} (hc : cs.length = 3) : jv_ev (jv_run (d + 1)) 122 15 [some (.ref b)] [] (jv_U f b (jc_ob a0 .null .null .null :: cs) y) = jv_ev (jv_run (d + 1)) 122 26 [some (.ref b)] [] (jv_U f b (jc_ob a0 (.ref (b + 4)) .null .null :: (cs ++ jc_core (b + 4))) (y + 4 + 17)) := by
  have e := jx_Core_init' (d := d) (b := b) (y := y + 4) (f := f) (cs := jc_ob a0 .null .null .null :: cs)
  simp (disch := first | omega | exact id rfl | exact id (Nat.le_of_ble_eq_true rfl) | (simp (disch := first | exact id rfl | exact id (Nat.le_of_ble_eq_true rfl)) only [jv_U_pf0, Option.isSome_some])) only [E122_15, E122_16, jv_U_new, jv_U_sz, E122_19, jt_dl2]
  rw [E122_20 rfl (by rw [e]; rfl), e]
  simp only [List.length_cons, hc]
  simp (disch := first | omega | exact id rfl | exact id (Nat.le_of_ble_eq_true rfl) | (simp (disch := first | exact id rfl | exact id (Nat.le_of_ble_eq_true rfl)) only [jv_U_pf0, Option.isSome_some])) only [Option.getD_some, Option.toList_none, List.nil_append, E122_23, jv_U_pf0]
  rfl
theorem jx_Mach_3 {a0 a1 : Value} {cs : List jv_C} (hc : cs.length = 5) : jv_ev (jv_run (d + 1)) 122 26 [some (.ref b)] [] (jv_U f b (jc_ob a0 a1 .null .null :: cs) y) = jv_ev (jv_run (d + 1)) 122 37 [some (.ref b)] [] (jv_U f b (jc_ob a0 a1 (.ref (b + 6)) .null :: (cs ++ jc_drum (b + 6))) (y + 8 + 64 + 17)) := by
  have e := jx_Drum_init' (d := d) (b := b) (y := y + 8) (f := f) (cs := jc_ob a0 a1 .null .null :: cs)
  simp (disch := first | omega | exact id rfl | exact id (Nat.le_of_ble_eq_true rfl) | (simp (disch := first | exact id rfl | exact id (Nat.le_of_ble_eq_true rfl)) only [jv_U_pf0, Option.isSome_some])) only [E122_26, E122_27, jv_U_new, jv_U_sz, E122_30, jt_dl3]
  rw [E122_31 rfl (by rw [e]; rfl), e]
  simp only [List.length_cons, hc]
  simp (disch := first | omega | exact id rfl | exact id (Nat.le_of_ble_eq_true rfl) | (simp (disch := first | exact id rfl | exact id (Nat.le_of_ble_eq_true rfl)) only [jv_U_pf0, Option.isSome_some])) only [Option.getD_some, Option.toList_none, List.nil_append, E122_34, jv_U_pf0]
  rfl
theorem jx_Mach_4 {a0 a1 a2 : Value} {cs : List jv_C} (hc : cs.length = 8) : jv_ev (jv_run (d + 1)) 122 37 [some (.ref b)] [] (jv_U f b (jc_ob a0 a1 a2 .null :: cs) y) = some (none, jv_U f b (.inl (6, [a0, a1, a2, .ref (b + 9), .int (nI 0), .int (nI 0), .int (nI 0), .int (-1), .int (nI 0), .int (nI 0), .int (nI 0), .int (nI 0)]) :: (cs ++ [.inr (4, 12, fun _ => .null)])) (y + 12)) := by
  simp (disch := first | omega | exact id rfl | exact id (Nat.le_of_ble_eq_true rfl) | (simp (disch := first | exact id rfl | exact id (Nat.le_of_ble_eq_true rfl)) only [jv_U_pf0, Option.isSome_some])) only [E122_37, E122_38, E122_40, jv_U_newa, jv_U_sz, List.length_cons, hc, E122_43, jv_U_pf0, Option.getD_some]
  have e : ([jc_ob a0 a1 a2 Value.null] ++ cs ++ [Sum.inr (4, 12, fun _ => Value.null)]).length = 10 := by simp [hc]
  simp (disch := first | omega | exact id rfl | exact id (Nat.le_of_ble_eq_true rfl) | (simp (disch := first | exact id rfl | exact id (Nat.le_of_ble_eq_true rfl)) only [jv_U_pf0, Option.isSome_some])) only [E122_46, E122_47, E122_48, E122_51, E122_52, E122_53, E122_56, E122_57, E122_58, E122_61, E122_62, E122_63, E122_66, E122_67, E122_68, E122_71, E122_72, E122_73, E122_76, E122_77, E122_78, E122_81, E122_82, E122_83, E122_86, jv_U_pf0, Option.getD_some]
  rfl
theorem jx_Mach_init : jv_run (d + 2) 122 [.ref b] (jv_U f b [.inl (6, jt_dfl 6)] y) = some (none, jv_U f b (jc_mach b) (y + 4 + 3000 + 4 + 17 + 8 + 64 + 17 + 12)) := by
  rw [N122, jx_Mach_1, jx_Mach_2 rfl, jx_Mach_3 rfl, jx_Mach_4 rfl]
  rfl
end JI
