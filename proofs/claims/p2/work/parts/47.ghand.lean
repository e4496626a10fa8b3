/-! a number's print: by hand -/
section JH
variable {ρ : jk_R} {h : jv_H}
theorem jh_pn3 {d a : Nat} {l1 l2 l4 l5 l6 : Option Value} {o : Int32} (hO : jk_Ok jc_RT ρ h) (ha : ρ a = some 4) : jk_Gd jc_RT jc_pr (some jk_top) ρ h (jv_ev (jv_run (d + 1)) 109 120 [some (.ref a), l1, l2, some (.int o), l4, l5, l6] [] h) := by
  by_cases h1 : o = 0
  · have hcl := jh_cl hO ha (q := 4) rfl
    obtain ⟨r, h', f1, hO', hF, hR⟩ := jc_s108 d _ _ rfl ρ h [.ref a, .int (nI 10)] hO ⟨Or.inr ⟨a, rfl, ha⟩, jk_V_top, True.intro⟩
    cases r with
    | none => exact hR.elim
    | some v =>
      obtain ⟨x, rfl, _⟩ := hR
      simp (disch := first | omega | exact id rfl | exact jd_i | exact jd_r | exact jd_n | exact jd_f | decide | (simp (disch := omega) only [f1, hcl, h1, Option.isSome_some])) only [f1, hcl, h1, Option.isSome_some, Option.getD_some, Option.toList_some, Option.toList_none, List.cons_append, List.nil_append, E109_120, E109_121, E109_124, E109_125, E109_127, E109_130, E109_134, not_true_eq_false, if_false]
      exact ⟨_, _, rfl, hO', hF, jk_V_top (ρ := ρ)⟩
  · simp (disch := first | omega | exact id rfl | exact jd_i | exact jd_r | exact jd_n | exact jd_f | decide | (simp (disch := omega) only [h1, Option.isSome_some])) only [h1, Option.isSome_some, Option.getD_some, Option.toList_some, Option.toList_none, List.cons_append, List.nil_append, E109_120, E109_121, E109_133, E109_134, not_false_eq_true, if_true]
    exact jh_same hO (jk_V_top (ρ := ρ))
theorem jh_pn2 {d a : Nat} (ha : ρ a = some 4) : ∀ (t i : Nat), i + t = 16 → ∀ (h : jv_H) (rest unit : Int64) (o : Int32), jk_Ok jc_RT ρ h → jk_Gd jc_RT jc_pr (some jk_top) ρ h (jv_ev (jv_run (d + 1)) 109 69 [some (.ref a), some (.long rest), none, some (.int o), some (.long unit), none, some (.int (nI i))] [] h)
  | 0, i, hi, h, rest, unit, o, hO => by
    have e : i = 16 := by omega
    subst e
    have b : nI 16 ≤ nI 16 := by decide
    simp (disch := first | omega | exact id rfl | exact jd_i | exact jd_r | exact jd_n | exact jd_f | decide | (simp (disch := omega) only [b, Option.isSome_some])) only [b, Option.isSome_some, Option.getD_some, Option.toList_some, Option.toList_none, List.cons_append, List.nil_append, E109_69, E109_71, E109_73, if_true]
    exact jh_pn3 hO ha
  | t + 1, i, hi, h, rest, unit, o, hO => by
    have b : ¬ nI 16 ≤ nI i := by rw [nI_leI (by decide) (by omega)]; omega
    by_cases h1 : lg_cmp unit 0 ≤ 0
    · simp (disch := first | omega | exact id rfl | exact jd_i | exact jd_r | exact jd_n | exact jd_f | decide | (simp (disch := omega) only [b, h1, Option.isSome_some])) only [b, h1, Option.isSome_some, Option.getD_some, Option.toList_some, Option.toList_none, List.cons_append, List.nil_append, E109_69, E109_71, E109_73, E109_76, E109_78, E109_79, E109_80, if_true, if_false]
      exact jh_pn3 hO ha
    · have hu : ¬ unit = 0 := fun e => h1 (by rw [e]; decide)
      by_cases h2 : o = 0
      · have hcl := jh_cl hO ha (q := 4) rfl
        obtain ⟨r, h', f1, hO', hF, hR⟩ := jc_s108 d _ _ rfl ρ h [.ref a, .int (48 + rest / unit).toInt32] hO ⟨Or.inr ⟨a, rfl, ha⟩, jk_V_top, True.intro⟩
        cases r with
        | none => exact hR.elim
        | some v =>
          obtain ⟨x, rfl, _⟩ := hR
          have ih := jh_pn2 (d := d) ha t (i + 1) (by omega) h' (rest - rest / unit * unit) (unit / 10) x hO'
          have h10 : ¬ (10 : Int64) = 0 := by decide
          rw [E109_69]
          simp (disch := first | omega | exact id rfl | exact jd_i | exact jd_r | exact jd_n | exact jd_f | decide | (simp (disch := omega) only [f1, hcl, b, h1, h2, hu, h10, nI_add, Option.isSome_some])) only [f1, hcl, b, h1, h2, hu, h10, nI_add, Option.isSome_some, Option.getD_some, Option.toList_some, Option.toList_none, List.cons_append, List.nil_append, E109_71, E109_73, E109_76, E109_78, E109_79, E109_80, E109_83, E109_84, E109_87, E109_88, E109_91, E109_92, E109_94, E109_95, E109_96, E109_97, E109_100, E109_101, E109_102, E109_104, E109_105, E109_106, E109_108, E109_111, E109_112, E109_114, E109_117, if_false, not_true_eq_false]
          obtain ⟨r2, h2', e2, hO2, hF2, hR2⟩ := ih
          exact ⟨r2, h2', e2, hO2, jk_Fr_tr hF hF2, hR2⟩
      · simp (disch := first | omega | exact id rfl | exact jd_i | exact jd_r | exact jd_n | exact jd_f | decide | (simp (disch := omega) only [b, h1, h2, Option.isSome_some])) only [b, h1, h2, Option.isSome_some, Option.getD_some, Option.toList_some, Option.toList_none, List.cons_append, List.nil_append, E109_69, E109_71, E109_73, E109_76, E109_78, E109_79, E109_80, E109_83, E109_84, if_true, if_false, not_false_eq_true]
        exact jh_pn3 hO ha
theorem jh_pn1 {d a : Nat} {rest : Int64} {o : Int32} (ha : ρ a = some 4) (hO : jk_Ok jc_RT ρ h) : ∀ (t i : Nat), i + t = 15 → ∀ (unit : Int64), jk_Gd jc_RT jc_pr (some jk_top) ρ h (jv_ev (jv_run (d + 1)) 109 34 [some (.ref a), some (.long rest), none, some (.int o), some (.long unit), none, some (.int (nI i))] [] h)
  | 0, i, hi, unit => by
    have e : i = 15 := by omega
    subst e
    have b : nI 15 ≤ nI 15 := by decide
    simp (disch := first | omega | exact id rfl | exact jd_i | exact jd_r | exact jd_n | exact jd_f | decide | (simp (disch := omega) only [b, Option.isSome_some])) only [b, Option.isSome_some, Option.getD_some, Option.toList_some, Option.toList_none, List.cons_append, List.nil_append, E109_34, E109_36, E109_38, E109_66, E109_67, if_true]
    exact jh_pn2 ha 16 0 rfl h rest unit o hO
  | t + 1, i, hi, unit => by
    have b : ¬ nI 15 ≤ nI i := by rw [nI_leI (by decide) (by omega)]; omega
    have h10 : ¬ (10 : Int64) = 0 := by decide
    by_cases h1 : 0 < lg_cmp unit (rest / 10)
    · simp (disch := first | omega | exact id rfl | exact jd_i | exact jd_r | exact jd_n | exact jd_f | decide | (simp (disch := omega) only [b, h1, h10, Option.isSome_some])) only [b, h1, h10, Option.isSome_some, Option.getD_some, Option.toList_some, Option.toList_none, List.cons_append, List.nil_append, E109_34, E109_36, E109_38, E109_41, E109_43, E109_44, E109_47, E109_48, E109_49, E109_66, E109_67, if_true, if_false]
      exact jh_pn2 ha 16 0 rfl h rest unit o hO
    · have ih := jh_pn1 (d := d) (rest := rest) (o := o) ha hO t (i + 1) (by omega) (unit * 10)
      rw [E109_34]
      simp (disch := first | omega | exact id rfl | exact jd_i | exact jd_r | exact jd_n | exact jd_f | decide | (simp (disch := omega) only [b, h1, h10, nI_add, Option.isSome_some])) only [b, h1, h10, nI_add, Option.isSome_some, Option.getD_some, Option.toList_some, Option.toList_none, List.cons_append, List.nil_append, E109_36, E109_38, E109_41, E109_43, E109_44, E109_47, E109_48, E109_49, E109_52, E109_54, E109_57, E109_58, E109_60, E109_63, if_false]
      exact ih
theorem jc_s109 (d : Nat) : jk_Sp jc_RT jc_pr jc_sg (jv_run (d + 2)) 109 := jh_sp1 (q := 4) rfl fun ρ h a hO ha => by
  obtain ⟨w, e1, hw⟩ := jh_get (k := 2) hO ha rfl rfl
  obtain ⟨z, rfl⟩ := hw
  have hcl := jh_cl hO ha (q := 4) rfl
  obtain ⟨r0, h0, f0, hO0, hF0, hR0⟩ := jc_s155 d _ _ rfl ρ h [.long z] hO ⟨⟨z, rfl⟩, True.intro⟩
  cases r0 with
  | none => exact hR0.elim
  | some v0 =>
    obtain ⟨z0, rfl⟩ := hR0
    obtain ⟨w, e2, hw⟩ := jh_get (k := 2) hO0 ha rfl rfl
    obtain ⟨z1, rfl⟩ := hw
    have hcl0 := jh_cl hO0 ha (q := 4) rfl
    rw [N109]
    by_cases h1 : 0 ≤ lg_cmp z1 0
    · simp (disch := first | omega | exact id rfl | exact jd_i | exact jd_r | exact jd_n | exact jd_f | decide | (simp (disch := omega) only [e1, e2, f0, hcl, hcl0, h1, Option.isSome_some])) only [e1, e2, f0, hcl, hcl0, h1, Option.isSome_some, Option.getD_some, Option.toList_some, Option.toList_none, List.cons_append, List.nil_append, E109_0, E109_1, E109_4, E109_7, E109_8, E109_9, E109_12, E109_13, E109_14, E109_26, E109_27, E109_28, E109_29, E109_31, E109_32, if_true]
      obtain ⟨r2, h2', e2, hO2, hF2, hR2⟩ := jh_pn1 (d := d) (rest := z0) (o := nI 0) ha hO0 15 0 rfl 1
      exact ⟨r2, h2', e2, hO2, jk_Fr_tr hF0 hF2, hR2⟩
    · obtain ⟨r1, h1', f1, hO1, hF1, hR1⟩ := jc_s108 d _ _ rfl ρ h0 [.ref a, .int (nI 45)] hO0 ⟨Or.inr ⟨a, rfl, ha⟩, jk_V_top, True.intro⟩
      cases r1 with
      | none => exact hR1.elim
      | some v1 =>
        obtain ⟨x, rfl, _⟩ := hR1
        simp (disch := first | omega | exact id rfl | exact jd_i | exact jd_r | exact jd_n | exact jd_f | decide | (simp (disch := omega) only [e1, e2, f0, f1, hcl, hcl0, h1, Option.isSome_some])) only [e1, e2, f0, f1, hcl, hcl0, h1, Option.isSome_some, Option.getD_some, Option.toList_some, Option.toList_none, List.cons_append, List.nil_append, E109_0, E109_1, E109_4, E109_7, E109_8, E109_9, E109_12, E109_13, E109_14, E109_17, E109_18, E109_20, E109_23, E109_27, E109_28, E109_29, E109_31, E109_32, if_false]
        obtain ⟨r2, h2', e2, hO2, hF2, hR2⟩ := jh_pn1 (d := d) (rest := z0) (o := x) ha hO1 15 0 rfl 1
        exact ⟨r2, h2', e2, hO2, jk_Fr_tr hF0 (jk_Fr_tr hF1 hF2), hR2⟩
end JH
