/-! a tick; a run -/
section JG
variable {ρ : jk_R} {h h' : jv_H} {d b0 s0 x : Nat}
theorem jg_now {call : jv_F} {l1 l2 : Option Value} {ρ0 : jk_R} {h0 : jv_H} (Y : jg_Y 0 b0 s0 ρ0 h0 x ρ h) : ∃ h', jv_ev call 141 66 [some (.ref x), l1, l2] [] h = some (none, h') ∧ jg_Y 0 b0 s0 ρ0 h0 x ρ h' := by
  have hO := Y.1.1
  have hx := Y.1.2.1
  obtain ⟨nw, e1⟩ := jg_int (k := 8) hO hx rfl rfl
  obtain ⟨h2, f2, hO2, hz2, hn2, _, hg2, ha2⟩ := jg_put (k := 8) (v := .int (nw + nI 1)) hO hx rfl rfl jk_V_top rfl
  refine ⟨h2, ?_, jg_Y_tr Y (jg_Y_G (jg_G_put Y.1 hO2 hz2 hn2 hg2 ha2 (by simp [jg_key]) (by simp)) Y.2.1)⟩
  simp (disch := first | omega | exact id rfl | exact jd_i | exact jd_r | exact jd_n | exact jd_f | decide | (simp (disch := omega) only [e1, f2, Option.isSome_some])) only [e1, f2, Option.isSome_some, Option.getD_some, Option.toList_some, Option.toList_none, List.cons_append, List.nil_append, E141_66, E141_67, E141_68, E141_71, E141_72, E141_73, E141_76]
theorem jg_tick (hI : jg_I 0 b0 s0 ρ h x) (hA : jg_A ρ h) : ∃ ρ' h', jv_run (d + 6) 141 [.ref x] h = some (none, h') ∧ jg_Y 0 b0 s0 ρ h x ρ' h' := by
  have hx := hI.2.1
  have hclx := jh_cl hI.1 hx (q := 0) rfl
  obtain ⟨h1, f1, Y1⟩ := jg_finish (d := d + 2) hI hA
  have hclx1 := jh_cl Y1.1.1 hx (q := 0) rfl
  obtain ⟨h2, f2, G2⟩ := jg_lv (jc_s143 d) rfl Y1.1 (as := [.ref x]) ⟨jg_vr hx, True.intro⟩
  have Y2 := jg_Y_tr Y1 (jg_Y_G G2 Y1.2.1)
  obtain ⟨dr, e3, hdr⟩ := jg_ref (k := 2) Y2.1.1 hx rfl rfl
  obtain ⟨nw, e4⟩ := jg_int (k := 8) Y2.1.1 hx rfl rfl
  have hcld := jh_cl Y2.1.1 hdr (q := 3) rfl
  obtain ⟨h3, f3, G3⟩ := jg_lv (jc_s84 (d + 1)) rfl Y2.1 (as := [.ref dr, .int nw]) ⟨jg_vr hdr, jk_V_top, True.intro⟩
  have Y3 := jg_Y_tr Y2 (jg_Y_G G3 Y2.2.1)
  have hclx3 := jh_cl Y3.1.1 hx (q := 0) rfl
  obtain ⟨h4, y, f4, G4, n, js, c, J4, hy⟩ := jg_next (d := d + 3) Y3.1 Y3.2.1
  have Y4 := jg_Y_tr Y3 (jg_Y_G G4 Y3.2.1)
  have hclx4 := jh_cl Y4.1.1 hx (q := 0) rfl
  rw [N141]
  rcases hy with rfl | ⟨j, hj, rfl, hE⟩
  · have f5 : jv_run (d + 5) 139 [.ref x, .int (-1)] h4 = some (some (va_rf none), h4) := jg_find_m (d := d + 4)
    obtain ⟨id, e6⟩ := jg_int (k := 10) Y4.1.1 hx rfl rfl
    obtain ⟨h7, f7, hO7, hz7, hn7, _, hg7, ha7⟩ := jg_put (k := 10) (v := .int (id + nI 1)) Y4.1.1 hx rfl rfl jk_V_top rfl
    have Y7 := jg_Y_tr Y4 (jg_Y_G (jg_G_put Y4.1 hO7 hz7 hn7 hg7 ha7 (by simp [jg_key]) (by simp)) Y4.2.1)
    obtain ⟨h', e', Y'⟩ := jg_now (call := jv_run (d + 5)) (l1 := some (.int (-1))) (l2 := some (va_rf none)) Y7
    refine ⟨ρ, h', ?_, Y'⟩
    rw [← e']
    simp (disch := first | omega | exact id rfl | exact jd_i | exact jd_r | exact jd_n | exact jd_f | decide | (simp (disch := omega) only [f1, f2, e3, e4, f3, f4, f5, hclx, hclx1, hcld, hclx3, hclx4, Option.isSome_some])) only [f1, f2, e3, e4, f3, f4, f5, hclx, hclx1, hcld, hclx3, hclx4, Option.isSome_some, Option.getD_some, Option.toList_some, Option.toList_none, List.cons_append, List.nil_append, E141_0, E141_1, E141_4, E141_5, E141_8, E141_9, E141_12, E141_13, E141_16, E141_19, E141_20, E141_23, E141_24, E141_25, E141_26, E141_29r, E141_30r]
    rw [E141_31r, if_pos rfl]
    simp (disch := first | omega | exact id rfl | exact jd_i | exact jd_r | exact jd_n | exact jd_f | decide | (simp (disch := omega) only [e6, f7, Option.isSome_some])) only [e6, f7, Option.isSome_some, Option.getD_some, Option.toList_some, Option.toList_none, List.cons_append, List.nil_append, E141_34, E141_35, E141_36, E141_39, E141_40, E141_41, E141_44]
  · have f5 := jg_find (d := d + 4) Y4.1.1 hx J4 hj
    obtain ⟨a1, _⟩ := J4.2.2.1 j hj
    obtain ⟨h6, f6, hO6, hz6, hn6, _, hg6, ha6⟩ := jg_put (k := 7) (v := .int (nI j)) Y4.1.1 hx rfl rfl jk_V_top rfl
    have G6 := jg_G_put Y4.1 hO6 hz6 hn6 hg6 ha6 (by simp [jg_key]) (by simp)
    have hclj := jh_cl hO6 a1 (q := 4) rfl
    obtain ⟨h7, f7, G7⟩ := jg_lv (jc_s93 (d + 4)) rfl G6.1 (as := [.ref (js j)]) ⟨jg_vr a1, True.intro⟩
    have hE7 := (G7.2.2.2.1 (js j) a1).mpr ((G6.2.2.2.1 (js j) a1).mpr hE)
    have hclx7 := jh_cl G7.1.1 hx (q := 0) rfl
    obtain ⟨oc, ρ8, h8, f8, G8⟩ := jg_do (d := d) G7.1 a1 hE7
    have Y8 := jg_Y_tr Y4 (jg_Y_G (jg_G_tr G6 (jg_G_tr G7 G8)) Y4.2.1)
    have hx8 := Y8.1.2.1
    have hclx8 := jh_cl Y8.1.1 hx8 (q := 0) rfl
    obtain ⟨h9, f9, Y9⟩ := jg_settle (d := d + 1) (y := oc) Y8.1 Y8.2.1 (G8.2.1.1 _ 4 a1)
    obtain ⟨h', e', Y'⟩ := jg_now (call := jv_run (d + 5)) (l1 := some (.int (nI j))) (l2 := some (.ref (js j))) (jg_Y_tr Y8 Y9)
    refine ⟨ρ8, h', ?_, Y'⟩
    rw [← e']
    simp (disch := first | omega | exact id rfl | exact jd_i | exact jd_r | exact jd_n | exact jd_f | decide | (simp (disch := omega) only [f1, f2, e3, e4, f3, f4, f5, f6, f7, f8, f9, hclx, hclx1, hcld, hclx3, hclx4, hclj, hclx7, hclx8, Option.isSome_some])) only [f1, f2, e3, e4, f3, f4, f5, f6, f7, f8, f9, hclx, hclx1, hcld, hclx3, hclx4, hclj, hclx7, hclx8, Option.isSome_some, Option.getD_some, Option.toList_some, Option.toList_none, List.cons_append, List.nil_append, E141_0, E141_1, E141_4, E141_5, E141_8, E141_9, E141_12, E141_13, E141_16, E141_19, E141_20, E141_23, E141_24, E141_25, E141_26, E141_29, E141_30, E141_31, E141_47, E141_48, E141_49, E141_52, E141_53, E141_56, E141_57, E141_58, E141_59, E141_60, E141_63]
theorem jg_run_l {y : Int32} : ∀ (t i : Nat), i + t = 20000 → ∀ (ρ : jk_R) (h : jv_H), y ≤ nI 20000 → jg_I 0 b0 s0 ρ h x → jg_A ρ h → ∃ z ρ' h', jv_ev (jv_run (d + 6)) 127 15 [some (.ref x), some (.int y), some (.int (nI i))] [] h = some (some (.int z), h') ∧ jg_Y 0 b0 s0 ρ h x ρ' h' := by
  have fin : ∀ (ρ : jk_R) (h : jv_H) (l2 : Option Value), jg_I 0 b0 s0 ρ h x → jg_A ρ h → ∃ z ρ' h', jv_ev (jv_run (d + 6)) 127 37 [some (.ref x), some (.int y), l2] [] h = some (some (.int z), h') ∧ jg_Y 0 b0 s0 ρ h x ρ' h' := fun ρ h l2 hI hA => by
    obtain ⟨z, e1⟩ := jg_int (k := 5) hI.1 hI.2.1 rfl rfl
    refine ⟨z, ρ, h, ?_, jg_Y_rf hI hA⟩
    simp (disch := first | omega | exact id rfl | exact jd_i | exact jd_r | exact jd_n | exact jd_f | decide | (simp (disch := omega) only [e1, Option.isSome_some])) only [e1, Option.isSome_some, Option.getD_some, Option.toList_some, Option.toList_none, List.cons_append, List.nil_append, E127_37, E127_38, E127_41]
  intro t
  induction t with
  | zero =>
    intro i hi ρ h hy hI hA
    have e : i = 20000 := by omega
    subst e
    obtain ⟨z, ρ', h', e', Y'⟩ := fin ρ h (some (.int (nI 20000))) hI hA
    refine ⟨z, ρ', h', ?_, Y'⟩
    rw [← e']
    simp (disch := first | omega | exact id rfl | exact jd_i | exact jd_r | exact jd_n | exact jd_f | decide | (simp (disch := omega) only [hy, Option.isSome_some])) only [hy, Option.isSome_some, Option.getD_some, Option.toList_some, Option.toList_none, List.cons_append, List.nil_append, E127_15, E127_16, E127_17, if_true]
  | succ t ih =>
    intro i hi ρ h hy hI hA
    obtain ⟨u, e1⟩ := jg_int (k := 5) hI.1 hI.2.1 rfl rfl
    have hclx := jh_cl hI.1 hI.2.1 (q := 0) rfl
    by_cases h1 : y ≤ nI i
    · obtain ⟨z, ρ', h', e', Y'⟩ := fin ρ h (some (.int (nI i))) hI hA
      refine ⟨z, ρ', h', ?_, Y'⟩
      rw [← e', E127_15]
      simp (disch := first | omega | exact id rfl | exact jd_i | exact jd_r | exact jd_n | exact jd_f | decide | (simp (disch := omega) only [h1, Option.isSome_some])) only [h1, Option.isSome_some, Option.getD_some, Option.toList_some, Option.toList_none, List.cons_append, List.nil_append, E127_16, E127_17, if_true]
    · by_cases h2 : u ≤ 0
      · obtain ⟨z, ρ', h', e', Y'⟩ := fin ρ h (some (.int (nI i))) hI hA
        refine ⟨z, ρ', h', ?_, Y'⟩
        rw [← e', E127_15]
        simp (disch := first | omega | exact id rfl | exact jd_i | exact jd_r | exact jd_n | exact jd_f | decide | (simp (disch := omega) only [h1, h2, e1, Option.isSome_some])) only [h1, h2, e1, Option.isSome_some, Option.getD_some, Option.toList_some, Option.toList_none, List.cons_append, List.nil_append, E127_16, E127_17, E127_20, E127_21, E127_24, if_true, if_false]
      · obtain ⟨ρ1, h3, f3, Y3⟩ := jg_tick (d := d) hI hA
        obtain ⟨z, ρ', h', e', Y'⟩ := ih (i + 1) (by omega) ρ1 h3 hy Y3.1 Y3.2.1
        refine ⟨z, ρ', h', ?_, jg_Y_tr Y3 Y'⟩
        rw [← e', E127_15]
        simp (disch := first | omega | exact id rfl | exact jd_i | exact jd_r | exact jd_n | exact jd_f | decide | (simp (disch := omega) only [h1, h2, e1, f3, hclx, nI_add, Option.isSome_some])) only [h1, h2, e1, f3, hclx, nI_add, Option.isSome_some, Option.getD_some, Option.toList_some, Option.toList_none, List.cons_append, List.nil_append, E127_16, E127_17, E127_20, E127_21, E127_24, E127_27, E127_28, E127_31, E127_34, if_false]
theorem jg_run {y : Int32} (hI : jg_I 0 b0 s0 ρ h x) (hA : jg_A ρ h) : ∃ z ρ' h', jv_run (d + 7) 127 [.ref x, .int y] h = some (some (.int z), h') ∧ jg_Y 0 b0 s0 ρ h x ρ' h' := by
  rw [N127]
  by_cases h1 : y < 0
  · refine ⟨-1, ρ, h, ?_, jg_Y_rf hI hA⟩
    simp (disch := first | omega | exact id rfl | exact jd_i | exact jd_r | exact jd_n | exact jd_f | decide | (simp (disch := omega) only [h1, Option.isSome_some])) only [h1, Option.isSome_some, Option.getD_some, Option.toList_some, Option.toList_none, List.cons_append, List.nil_append, E127_0, E127_1, E127_11, E127_12, if_true]
  · by_cases h2 : y ≤ nI 20000
    · obtain ⟨z, ρ', h', e', Y'⟩ := jg_run_l (d := d) (y := y) 20000 0 rfl ρ h h2 hI hA
      refine ⟨z, ρ', h', ?_, Y'⟩
      rw [← e']
      simp (disch := first | omega | exact id rfl | exact jd_i | exact jd_r | exact jd_n | exact jd_f | decide | (simp (disch := omega) only [h1, h2, Option.isSome_some])) only [h1, h2, Option.isSome_some, Option.getD_some, Option.toList_some, Option.toList_none, List.cons_append, List.nil_append, E127_0, E127_1, E127_4, E127_5, E127_8, E127_13, E127_14, if_true, if_false]
    · refine ⟨-1, ρ, h, ?_, jg_Y_rf hI hA⟩
      simp (disch := first | omega | exact id rfl | exact jd_i | exact jd_r | exact jd_n | exact jd_f | decide | (simp (disch := omega) only [h1, h2, Option.isSome_some])) only [h1, h2, Option.isSome_some, Option.getD_some, Option.toList_some, Option.toList_none, List.cons_append, List.nil_append, E127_0, E127_1, E127_4, E127_5, E127_8, E127_11, E127_12, if_false]
end JG
