/-! bytes; a run before the first job -/
section JG
variable {ρ : jk_R} {h h' : jv_H} {d b0 s0 x : Nat}
/-- nothing but the count of bytes -/
def jo_K (tr : Nat) (h h' : jv_H) : Prop := ∀ b k m, ¬ (b = tr ∧ k = 5 ∧ m = 3) → jv_gf h' b k m = jv_gf h b k m
theorem jo_addB_l {tr : Nat} {v : Int64} {nn : Int32} (htr : ρ tr = some 1) : ∀ (t i : Nat), i + t = 8 → ∀ (h : jv_H), jg_I 0 b0 s0 ρ h x → ∃ h', jv_ev (jv_run d) 120 3 [some (.ref tr), some (.long v), none, some (.int nn), some (.int (nI i))] [] h = some (none, h') ∧ jg_G 0 b0 s0 ρ h x ρ h' ∧ jo_K tr h h'
  | 0, i, hi, h, hI => by
    have e : i = 8 := by omega
    subst e
    refine ⟨h, ?_, jg_G_rf hI, fun _ _ _ _ => rfl⟩
    have b1 : nI 8 ≤ nI 8 := by decide
    by_cases c1 : nn ≤ nI 8
    · simp (disch := first | omega | exact id rfl | exact jd_i | exact jd_r | exact jd_n | exact jd_f | decide | (simp (disch := omega) only [c1, Option.isSome_some])) only [c1, Option.isSome_some, Option.getD_some, Option.toList_some, Option.toList_none, List.cons_append, List.nil_append, E120_3, E120_5, E120_6, E120_66, if_true]
    · simp (disch := first | omega | exact id rfl | exact jd_i | exact jd_r | exact jd_n | exact jd_f | decide | (simp (disch := omega) only [c1, b1, Option.isSome_some])) only [c1, b1, Option.isSome_some, Option.getD_some, Option.toList_some, Option.toList_none, List.cons_append, List.nil_append, E120_3, E120_5, E120_6, E120_9, E120_11, E120_13, E120_66, if_true, if_false]
  | t + 1, i, hi, h, hI => by
    have b1 : ¬ nI 8 ≤ nI i := by rw [nI_leI (by decide) (by omega)]; omega
    by_cases c1 : nn ≤ nI i
    · refine ⟨h, ?_, jg_G_rf hI, fun _ _ _ _ => rfl⟩
      simp (disch := first | omega | exact id rfl | exact jd_i | exact jd_r | exact jd_n | exact jd_f | decide | (simp (disch := omega) only [c1, Option.isSome_some])) only [c1, Option.isSome_some, Option.getD_some, Option.toList_some, Option.toList_none, List.cons_append, List.nil_append, E120_3, E120_5, E120_6, E120_66, if_true]
    · have hO := hI.1
      obtain ⟨w, e1, hw⟩ := jh_get (k := 3) hO htr rfl rfl
      obtain ⟨y, rfl, y0, y1⟩ := hw
      simp only at y0 y1
      by_cases c2 : nI 2000 ≤ y
      · refine ⟨h, ?_, jg_G_rf hI, fun _ _ _ _ => rfl⟩
        simp (disch := first | omega | exact id rfl | exact jd_i | exact jd_r | exact jd_n | exact jd_f | decide | (simp (disch := omega) only [c1, c2, b1, e1, Option.isSome_some])) only [c1, c2, b1, e1, Option.isSome_some, Option.getD_some, Option.toList_some, Option.toList_none, List.cons_append, List.nil_append, E120_3, E120_5, E120_6, E120_9, E120_11, E120_13, E120_16, E120_17, E120_20, E120_23, E120_66, if_true, if_false]
      · have y2 : ¬ (2000 : Int) ≤ y.toInt := fun q => c2 ((jh_leN (by decide)).mpr q)
        obtain ⟨br, e2, hbr⟩ := jg_ref (k := 1) hO htr rfl rfl
        obtain ⟨h1, f1, hO1, hF1, hg1⟩ := jh_st (pr := jc_pr) (x := y) (v := .int ((v >>> ((nI 56 - nI 8 * nI i).toInt64 &&& 63)).toInt32 &&& nI 255)) hO hbr (q := 7) (kd := 0) (ty := .int) rfl rfl (by decide) (by omega) (by omega) jk_V_top rfl
        have G1 := jg_G_fr hI hO1 hF1
        have e3 : jv_gf h1 tr 5 3 = some (.int y) := (hg1 _ _ _).trans e1
        have hy : (y + nI 1).toInt = y.toInt + 1 := jh_add1 (by omega)
        obtain ⟨h2, f2, hO2, hz2, hn2, _, hg2, ha2⟩ := jg_put (k := 3) (v := .int (y + nI 1)) hO1 htr rfl rfl ⟨_, rfl, by rw [hy]; show (0 : Int) ≤ _; omega, by rw [hy]; show _ ≤ (2000 : Int); omega⟩ rfl
        have G2 := jg_G_tr G1 (jg_G_put G1.1 hO2 hz2 hn2 hg2 ha2 (by simp [jg_key]) (by simp))
        obtain ⟨h', e', G', K'⟩ := jo_addB_l (v := v) (nn := nn) htr t (i + 1) (by omega) h2 G2.1
        refine ⟨h', ?_, jg_G_tr G2 G', fun b k m hb => by rw [K' b k m hb, hg2 b k m hb, hg1]⟩
        rw [← e', E120_3]
        simp (disch := first | omega | exact id rfl | exact jd_i | exact jd_r | exact jd_n | exact jd_f | decide | (simp (disch := omega) only [c1, c2, b1, e1, e2, e3, f1, f2, nI_add, Option.isSome_some])) only [c1, c2, b1, e1, e2, e3, f1, f2, nI_add, Option.isSome_some, Option.getD_some, Option.toList_some, Option.toList_none, List.cons_append, List.nil_append, E120_5, E120_6, E120_9, E120_11, E120_13, E120_16, E120_17, E120_20, E120_23, E120_26, E120_27, E120_30, E120_31, E120_34, E120_35, E120_37, E120_39, E120_41, E120_42, E120_43, E120_44, E120_45, E120_48, E120_49, E120_50, E120_51, E120_52, E120_55, E120_56, E120_57, E120_60, E120_63, if_false]
theorem jo_addB {tr : Nat} {v : Int64} {nn : Int32} (htr : ρ tr = some 1) (hI : jg_I 0 b0 s0 ρ h x) : ∃ h', jv_run (d + 1) 120 [.ref tr, .long v, .int nn] h = some (none, h') ∧ jg_G 0 b0 s0 ρ h x ρ h' ∧ jo_K tr h h' := by
  obtain ⟨h', e', G', K'⟩ := jo_addB_l (d := d) (v := v) (nn := nn) htr 8 0 rfl h hI
  refine ⟨h', ?_, G', K'⟩
  rw [← e', N120]
  simp (disch := first | omega | exact id rfl | exact jd_i | exact jd_r | exact jd_n | exact jd_f | decide | (simp (disch := omega) only [nI_add, Option.isSome_some])) only [nI_add, Option.isSome_some, Option.getD_some, Option.toList_some, Option.toList_none, List.cons_append, List.nil_append, E120_0, E120_1]
theorem jo_bytes {a1 a2 a3 a4 : Int64} {nn : Int32} (hI : jg_I 0 b0 s0 ρ h x) : ∃ z h', jv_run (d + 2) 125 [.ref x, .long a1, .long a2, .long a3, .long a4, .int nn] h = some (some (.int z), h') ∧ jg_G 0 b0 s0 ρ h x ρ h' ∧ ∀ w, jo_0 h x w → jo_0 h' x w := by
  have hO := hI.1
  have hx := hI.2.1
  obtain ⟨tr, e1, htr⟩ := jg_ref (k := 0) hO hx rfl rfl
  have hcl := jh_cl hO htr (q := 1) rfl
  rw [N125]
  by_cases c1 : nn < 0
  · refine ⟨-1, h, ?_, jg_G_rf hI, fun _ q => q⟩
    simp (disch := first | omega | exact id rfl | exact jd_i | exact jd_r | exact jd_n | exact jd_f | decide | (simp (disch := omega) only [c1, Option.isSome_some])) only [c1, Option.isSome_some, Option.getD_some, Option.toList_some, Option.toList_none, List.cons_append, List.nil_append, E125_0, E125_2, E125_24, E125_25, if_true]
  · by_cases c2 : nI 32 < nn
    · refine ⟨-1, h, ?_, jg_G_rf hI, fun _ q => q⟩
      simp (disch := first | omega | exact id rfl | exact jd_i | exact jd_r | exact jd_n | exact jd_f | decide | (simp (disch := omega) only [c1, c2, Option.isSome_some])) only [c1, c2, Option.isSome_some, Option.getD_some, Option.toList_some, Option.toList_none, List.cons_append, List.nil_append, E125_0, E125_2, E125_5, E125_7, E125_9, E125_24, E125_25, if_true, if_false]
    · obtain ⟨r0, h0, f0, hO0, hF0, hR0⟩ := jc_s118 d _ _ rfl ρ h [.ref tr, .int nn] hO ⟨jg_vr htr, jk_V_top, True.intro⟩
      cases r0 with
      | none => exact hR0.elim
      | some v0 =>
        obtain ⟨z0, rfl, _⟩ := hR0
        have G0 := jg_G_fr hI hO0 hF0
        by_cases c3 : z0 = 0
        · subst c3
          refine ⟨-1, h0, ?_, G0, fun w q => jo_0k hO hx hF0 q⟩
          simp (disch := first | omega | exact id rfl | exact jd_i | exact jd_r | exact jd_n | exact jd_f | decide | (simp (disch := omega) only [c1, c2, e1, f0, hcl, Option.isSome_some])) only [c1, c2, e1, f0, hcl, Option.isSome_some, Option.getD_some, Option.toList_some, Option.toList_none, List.cons_append, List.nil_append, E125_0, E125_2, E125_5, E125_7, E125_9, E125_12, E125_13, E125_16, E125_18, E125_21, E125_24, E125_25, if_false, not_true_eq_false]
        · have u0 : jv_gf h0 x 6 0 = some (.ref tr) := by rw [jg_kf (k := 0) hO hF0 hx rfl]; exact e1
          obtain ⟨h1, f1, G1, K1⟩ := jo_addB (d := d) (v := a1) (nn := nn) htr G0.1
          obtain ⟨h2, f2, G2, K2⟩ := jo_addB (d := d) (v := a2) (nn := nn - nI 8) htr G1.1
          obtain ⟨h3, f3, G3, K3⟩ := jo_addB (d := d) (v := a3) (nn := nn - nI 16) htr G2.1
          obtain ⟨h4, f4, G4, K4⟩ := jo_addB (d := d) (v := a4) (nn := nn - nI 24) htr G3.1
          have u1 : jv_gf h1 x 6 0 = some (.ref tr) := (K1 _ _ _ (by simp)).trans u0
          have u2 : jv_gf h2 x 6 0 = some (.ref tr) := (K2 _ _ _ (by simp)).trans u1
          have u3 : jv_gf h3 x 6 0 = some (.ref tr) := (K3 _ _ _ (by simp)).trans u2
          have u4 : jv_gf h4 x 6 0 = some (.ref tr) := (K4 _ _ _ (by simp)).trans u3
          have l0 := jh_cl G0.1.1 htr (q := 1) rfl
          have l1 := jh_cl G1.1.1 htr (q := 1) rfl
          have l2 := jh_cl G2.1.1 htr (q := 1) rfl
          have l3 := jh_cl G3.1.1 htr (q := 1) rfl
          obtain ⟨z, e9⟩ := jg_int (k := 3) G4.1.1 htr rfl rfl
          refine ⟨z, h4, ?_, jg_G_tr G0 (jg_G_tr G1 (jg_G_tr G2 (jg_G_tr G3 G4))), fun w q => jo_0c (fun b c m hc => ?_) (jo_0k hO hx hF0 q)⟩
          · simp (disch := first | omega | exact id rfl | exact jd_i | exact jd_r | exact jd_n | exact jd_f | decide | (simp (disch := omega) only [c1, c2, c3, e1, f0, hcl, f1, f2, f3, f4, u0, u1, u2, u3, u4, l0, l1, l2, l3, e9, Option.isSome_some])) only [c1, c2, c3, e1, f0, hcl, f1, f2, f3, f4, u0, u1, u2, u3, u4, l0, l1, l2, l3, e9, Option.isSome_some, Option.getD_some, Option.toList_some, Option.toList_none, List.cons_append, List.nil_append, E125_0, E125_2, E125_5, E125_7, E125_9, E125_12, E125_13, E125_16, E125_18, E125_21, E125_24, E125_25, E125_26, E125_27, E125_30, E125_31, E125_33, E125_36, E125_37, E125_40, E125_41, E125_43, E125_45, E125_46, E125_49, E125_50, E125_53, E125_55, E125_57, E125_59, E125_60, E125_63, E125_64, E125_67, E125_69, E125_71, E125_73, E125_74, E125_77, E125_78, E125_81, E125_84, if_true, if_false, not_false_eq_true]
          · have hne : ¬ (b = tr ∧ c = 5 ∧ m = 3) := fun q => by rcases hc with y | ⟨_, y⟩ <;> omega
            rw [K4 b c m hne, K3 b c m hne, K2 b c m hne, K1 b c m hne]
theorem jo_run0 {y : Int32} (e1 : jv_gf h x 6 5 = some (.int (nI 0))) : ∃ z, jv_run (d + 1) 127 [.ref x, .int y] h = some (some (.int z), h) := by
  rw [N127]
  have c4 : nI 0 ≤ (0 : Int32) := by decide
  by_cases c1 : y < 0
  · refine ⟨-1, ?_⟩
    simp (disch := first | omega | exact id rfl | exact jd_i | exact jd_r | exact jd_n | exact jd_f | decide | (simp (disch := omega) only [c1, Option.isSome_some])) only [c1, Option.isSome_some, Option.getD_some, Option.toList_some, Option.toList_none, List.cons_append, List.nil_append, E127_0, E127_1, E127_11, E127_12, if_true]
  · by_cases c2 : y ≤ nI 20000
    · refine ⟨nI 0, ?_⟩
      by_cases c3 : y ≤ nI 0
      · simp (disch := first | omega | exact id rfl | exact jd_i | exact jd_r | exact jd_n | exact jd_f | decide | (simp (disch := omega) only [c1, c2, c3, e1, Option.isSome_some])) only [c1, c2, c3, e1, Option.isSome_some, Option.getD_some, Option.toList_some, Option.toList_none, List.cons_append, List.nil_append, E127_0, E127_1, E127_4, E127_5, E127_8, E127_13, E127_14, E127_15, E127_16, E127_17, E127_37, E127_38, E127_41, if_true, if_false]
      · simp (disch := first | omega | exact id rfl | exact jd_i | exact jd_r | exact jd_n | exact jd_f | decide | (simp (disch := omega) only [c1, c2, c3, c4, e1, Option.isSome_some])) only [c1, c2, c3, c4, e1, Option.isSome_some, Option.getD_some, Option.toList_some, Option.toList_none, List.cons_append, List.nil_append, E127_0, E127_1, E127_4, E127_5, E127_8, E127_13, E127_14, E127_15, E127_16, E127_17, E127_20, E127_21, E127_24, E127_37, E127_38, E127_41, if_true, if_false]
    · refine ⟨-1, ?_⟩
      simp (disch := first | omega | exact id rfl | exact jd_i | exact jd_r | exact jd_n | exact jd_f | decide | (simp (disch := omega) only [c1, c2, Option.isSome_some])) only [c1, c2, Option.isSome_some, Option.getD_some, Option.toList_some, Option.toList_none, List.cons_append, List.nil_append, E127_0, E127_1, E127_4, E127_5, E127_8, E127_11, E127_12, if_false]
end JG
