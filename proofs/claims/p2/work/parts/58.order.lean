/-! an order is done; a tick; a run -/
section JG
variable {ρ : jk_R} {h h' : jv_H} {d b0 s0 x : Nat}
/-- a leaf that answers an int -/
theorem jg_li {y : Nat} {ats : List jk_T} {lo hi : Int} {as : List Value} {call : jv_F} (S : jk_Sp jc_RT jc_pr jc_sg call y) (hs : jc_sg y = some (ats, some (.inl (lo, hi)))) (hI : jg_I 0 b0 s0 ρ h x) (hV : jk_Vs ρ ats as) : ∃ z h', call y as h = some (some (.int z), h') ∧ jg_G 0 b0 s0 ρ h x ρ h' := by
  obtain ⟨r, h', f, hO', hF, hR⟩ := S _ _ hs ρ h as hI.1 hV
  cases r with
  | none => exact hR.elim
  | some v =>
    obtain ⟨z, rfl, _⟩ := hR
    exact ⟨z, h', f, jg_G_fr hI hO' hF⟩
theorem jg_ll {y : Nat} {ats : List jk_T} {as : List Value} {call : jv_F} (S : jk_Sp jc_RT jc_pr jc_sg call y) (hs : jc_sg y = some (ats, some jk_lg)) (hI : jg_I 0 b0 s0 ρ h x) (hV : jk_Vs ρ ats as) : ∃ z h', call y as h = some (some (.long z), h') ∧ jg_G 0 b0 s0 ρ h x ρ h' := by
  obtain ⟨r, h', f, hO', hF, hR⟩ := S _ _ hs ρ h as hI.1 hV
  cases r with
  | none => exact hR.elim
  | some v =>
    obtain ⟨z, rfl⟩ := hR
    exact ⟨z, h', f, jg_G_fr hI hO' hF⟩
theorem jg_lr {y q : Nat} {ats : List jk_T} {as : List Value} {call : jv_F} (S : jk_Sp jc_RT jc_pr jc_sg call y) (hs : jc_sg y = some (ats, some (.inr (.inr (q, false))))) (hI : jg_I 0 b0 s0 ρ h x) (hV : jk_Vs ρ ats as) : ∃ r h', call y as h = some (some (va_rf r), h') ∧ jg_G 0 b0 s0 ρ h x ρ h' ∧ ∀ b, r = some b → ρ b = some q := by
  obtain ⟨r, h', f, hO', hF, hR⟩ := S _ _ hs ρ h as hI.1 hV
  cases r with
  | none => exact hR.elim
  | some v =>
    obtain ⟨z, rfl, hz⟩ := jh_rfn hR
    exact ⟨z, h', f, jg_G_fr hI hO' hF, hz⟩
theorem jg_lv {y : Nat} {ats : List jk_T} {as : List Value} {call : jv_F} (S : jk_Sp jc_RT jc_pr jc_sg call y) (hs : jc_sg y = some (ats, none)) (hI : jg_I 0 b0 s0 ρ h x) (hV : jk_Vs ρ ats as) : ∃ h', call y as h = some (none, h') ∧ jg_G 0 b0 s0 ρ h x ρ h' := by
  obtain ⟨r, h', f, hO', hF, hR⟩ := S _ _ hs ρ h as hI.1 hV
  cases r with
  | some v => exact hR.elim
  | none => exact ⟨h', f, jg_G_fr hI hO' hF⟩
theorem jg_int {a q c k : Nat} {ts : List jk_T} {lo hi : Int} (hO : jk_Ok jc_RT ρ h) (ha : ρ a = some q) (hr : jc_RT[q]? = some (.inl (c, ts))) (ht : ts[k]? = some (.inl (lo, hi))) : ∃ z, jv_gf h a c k = some (.int z) := by
  obtain ⟨v, e, hv⟩ := jh_get hO ha hr ht
  obtain ⟨z, rfl, _⟩ := hv
  exact ⟨z, e⟩
theorem jg_vr {a q : Nat} {nn : Bool} (ha : ρ a = some q) : jk_V ρ (.inr (.inr (q, nn))) (.ref a) := Or.inr ⟨a, rfl, ha⟩
theorem jg_do {a : Nat} (hI : jg_I 0 b0 s0 ρ h x) (ha : ρ a = some 4) (hE : jg_E h a) : ∃ r ρ' h', jv_run (d + 5) 147 [.ref x, .ref a] h = some (some (.int r), h') ∧ jg_G 0 b0 s0 ρ h x ρ' h' := by
  have hO := hI.1
  have hx := hI.2.1
  rw [show jv_run (d + 5) 147 [.ref x, .ref a] h = jv_ev (jv_run (d + 4)) 147 0 [some (.ref x), some (.ref a), none, none, none, none, none, none, none, none] [] h from N147 (a0 := some a)]
  obtain ⟨od, e1⟩ := jg_int (k := 11) hO ha rfl rfl
  obtain ⟨lm, e2⟩ := jg_int (k := 1) hO ha rfl rfl
  by_cases h1 : od < lm
  · obtain ⟨ct, e3⟩ := jg_int (k := 4) hO ha rfl rfl
    obtain ⟨r1, ρ1, h2, f1, G1⟩ := jg_reach (d := d + 1) (y := ct) hI ha hE
    have hclx := jh_cl hO hx (q := 0) rfl
    have s1 : jv_ev (jv_run (d + 4)) 147 0 [some (.ref x), some (.ref a), none, none, none, none, none, none, none, none] [] h = jv_ev (jv_run (d + 4)) 147 23 [some (.ref x), some (.ref a), some (.int r1), none, none, none, none, none, none, none] [] h2 := by
      simp (disch := first | omega | exact id rfl | exact jd_i | exact jd_r | exact jd_n | exact jd_f | decide | (simp (disch := omega) only [e1, e2, e3, f1, hclx, h1, Option.isSome_some])) only [e1, e2, e3, f1, hclx, h1, Option.isSome_some, Option.getD_some, Option.toList_some, Option.toList_none, List.cons_append, List.nil_append, E147_0, E147_1, E147_4, E147_5, E147_8, E147_13, E147_14, E147_15, E147_16, E147_19, E147_22, if_true]
    rw [s1]
    have ha1 := G1.2.1.1 a 4 ha
    have hx1 := G1.1.2.1
    have hE1 := (G1.2.2.2.1 a ha).mpr hE
    by_cases h3 : r1 = 0
    · subst h3
      obtain ⟨c1, e4⟩ := jg_int (k := 4) G1.1.1 ha1 rfl rfl
      have hcla1 := jh_cl G1.1.1 ha1 (q := 4) rfl
      obtain ⟨rb, h3, f3, G3, hrb⟩ := jg_lr (jc_s95 (d + 2)) rfl G1.1 (as := [.ref a, .int c1]) ⟨jg_vr ha1, jk_V_top, True.intro⟩
      obtain ⟨c2, e5⟩ := jg_int (k := 4) G3.1.1 ha1 rfl rfl
      have hcla3 := jh_cl G3.1.1 ha1 (q := 4) rfl
      obtain ⟨od2, h4, f4, G4⟩ := jg_ll (jc_s97 (d + 2)) rfl G3.1 (as := [.ref a, .int c2]) ⟨jg_vr ha1, jk_V_top, True.intro⟩
      obtain ⟨fn, h5, f5, G5⟩ := jg_li (jc_s158 (d + 3)) rfl G4.1 (as := [.long od2]) ⟨⟨_, rfl⟩, True.intro⟩
      obtain ⟨kn, h6, f6, G6⟩ := jg_li (jc_s161 (d + 3)) rfl G5.1 (as := [.int fn]) ⟨jk_V_top, True.intro⟩
      have G6' := jg_G_tr G1 (jg_G_tr G3 (jg_G_tr G4 (jg_G_tr G5 G6)))
      have s2 : jv_ev (jv_run (d + 4)) 147 23 [some (.ref x), some (.ref a), some (.int 0), none, none, none, none, none, none, none] [] h2 = if ¬ kn = 0 then jv_ev (jv_run (d + 4)) 147 65 [some (.ref x), some (.ref a), some (.int 0), some (va_rf rb), some (.long od2), none, some (.int fn), none, none, none] [] h6 else some (some (.int (nI 3)), h6) := by
        simp (disch := first | omega | exact id rfl | exact jd_i | exact jd_r | exact jd_n | exact jd_f | decide | (simp (disch := omega) only [e4, e5, f3, f4, f5, f6, hcla1, hcla3, Option.isSome_some])) only [e4, e5, f3, f4, f5, f6, hcla1, hcla3, Option.isSome_some, Option.getD_some, Option.toList_some, Option.toList_none, List.cons_append, List.nil_append, E147_23, E147_24, E147_29, E147_30, E147_31, E147_34, E147_37r, E147_38, E147_39, E147_40, E147_43, E147_46, E147_48, E147_50, E147_53, E147_55, E147_57, E147_60, E147_63, E147_64, if_true]
      rw [s2]
      by_cases h7 : kn = 0
      · refine ⟨nI 3, ρ1, h6, by rw [if_neg (fun q => q h7)], G6'⟩
      · rw [if_pos h7]
        have hcla6 := jh_cl G6.1.1 ha1 (q := 4) rfl
        obtain ⟨s, h8, f8, G8⟩ := jg_li (jc_s102 (d + 2)) rfl G6.1 (as := [.ref a, .long od2]) ⟨jg_vr ha1, ⟨_, rfl⟩, True.intro⟩
        obtain ⟨tw, h9, f9, G9⟩ := jg_li (jc_s162 (d + 3)) rfl G8.1 (as := [.int fn]) ⟨jk_V_top, True.intro⟩
        have G9' := jg_G_tr G6' (jg_G_tr G8 G9)
        have s3 : jv_ev (jv_run (d + 4)) 147 65 [some (.ref x), some (.ref a), some (.int 0), some (va_rf rb), some (.long od2), none, some (.int fn), none, none, none] [] h6 = if tw = 0 then jv_ev (jv_run (d + 4)) 147 106 [some (.ref x), some (.ref a), some (.int 0), some (va_rf rb), some (.long od2), none, some (.int fn), some (.int s), some (va_rf none), none] [] h9 else jv_ev (jv_run (d + 4)) 147 84 [some (.ref x), some (.ref a), some (.int 0), some (va_rf rb), some (.long od2), none, some (.int fn), some (.int s), some (va_rf none), none] [] h9 := by
          simp (disch := first | omega | exact id rfl | exact jd_i | exact jd_r | exact jd_n | exact jd_f | decide | (simp (disch := omega) only [f8, f9, hcla6, Option.isSome_some])) only [f8, f9, hcla6, Option.isSome_some, Option.getD_some, Option.toList_some, Option.toList_none, List.cons_append, List.nil_append, E147_65, E147_66, E147_68, E147_71, E147_73]
          have nn : (Value.null : Value) = va_rf none := rfl
          rw [nn]
          simp (disch := first | omega | exact id rfl | exact jd_i | exact jd_r | exact jd_n | exact jd_f | decide | (simp (disch := omega) only [f9, Option.isSome_some])) only [f9, Option.isSome_some, Option.getD_some, Option.toList_some, Option.toList_none, List.cons_append, List.nil_append, E147_74r, E147_76, E147_78, E147_81]
        rw [s3]
        /- the order itself: from 106 -/
        have obey : ∀ (ρ2 : jk_R) (hh : jv_H) (o1 : Int32) (rw2 : Option Nat), jg_G 0 b0 s0 ρ h x ρ2 hh → (∀ b, rb = some b → ρ2 b = some 5) → (∀ b, rw2 = some b → ρ2 b = some 5) → ∃ r ρ' h', jv_ev (jv_run (d + 4)) 147 106 [some (.ref x), some (.ref a), some (.int o1), some (va_rf rb), some (.long od2), none, some (.int fn), some (.int s), some (va_rf rw2), none] [] hh = some (some (.int r), h') ∧ jg_G 0 b0 s0 ρ h x ρ' h' := fun ρ2 hh o1 rw2 Gh hrb2 hrw2 => by
          have ha2 := Gh.2.1.1 a 4 ha
          have hx2 := Gh.1.2.1
          obtain ⟨ix, k1, g1, H1⟩ := jg_li (jc_s159 (d + 3)) rfl Gh.1 (as := [.long od2]) ⟨⟨_, rfl⟩, True.intro⟩
          have hclk := jh_cl H1.1.1 ha2 (q := 4) rfl
          obtain ⟨oc, k2, g2, H2⟩ := jg_li (jc_s103 d) rfl H1.1 (as := [.ref a, .int fn, .int ix, .int s]) ⟨jg_vr ha2, jk_V_top, jk_V_top, jk_V_top, True.intro⟩
          obtain ⟨cn, k3, g3, H3⟩ := jg_li (jc_s146 (d + 3)) rfl H2.1 (as := [.int oc]) ⟨jk_V_top, True.intro⟩
          have K3 := jg_G_tr Gh (jg_G_tr H1 (jg_G_tr H2 H3))
          by_cases c0 : cn = 0
          · subst c0
            refine ⟨oc, ρ2, k3, ?_, K3⟩
            simp (disch := first | omega | exact id rfl | exact jd_i | exact jd_r | exact jd_n | exact jd_f | decide | (simp (disch := omega) only [g1, g2, g3, hclk, Option.isSome_some])) only [g1, g2, g3, hclk, Option.isSome_some, Option.getD_some, Option.toList_some, Option.toList_none, List.cons_append, List.nil_append, E147_106, E147_107, E147_109, E147_111, E147_114, E147_116, E147_119, E147_121, E147_123, E147_126, E147_146, E147_148, if_true]
          · obtain ⟨co, e7, hco⟩ := jg_ref (k := 1) H3.1.1 hx2 rfl rfl
            have hclc := jh_cl H3.1.1 hco (q := 2) rfl
            obtain ⟨k4, g4, H4⟩ := jg_lv (jc_s74 (d + 3)) rfl H3.1 (as := [.ref co, va_rf rb]) ⟨jg_vr hco, jh_rfV hrb2, True.intro⟩
            obtain ⟨co2, e8, hco2⟩ := jg_ref (k := 1) H4.1.1 hx2 rfl rfl
            have hclc2 := jh_cl H4.1.1 hco2 (q := 2) rfl
            obtain ⟨k5, g5, H5⟩ := jg_lv (jc_s74 (d + 3)) rfl H4.1 (as := [.ref co2, va_rf rw2]) ⟨jg_vr hco2, jh_rfV hrw2, True.intro⟩
            refine ⟨oc, ρ2, k5, ?_, jg_G_tr K3 (jg_G_tr H4 H5)⟩
            simp (disch := first | omega | exact id rfl | exact jd_i | exact jd_r | exact jd_n | exact jd_f | decide | (simp (disch := omega) only [g1, g2, g3, g4, g5, e7, e8, hclk, hclc, hclc2, c0, Option.isSome_some])) only [g1, g2, g3, g4, g5, e7, e8, hclk, hclc, hclc2, c0, Option.isSome_some, Option.getD_some, Option.toList_some, Option.toList_none, List.cons_append, List.nil_append, E147_106, E147_107, E147_109, E147_111, E147_114, E147_116, E147_119, E147_121, E147_123, E147_126, E147_129, E147_130, E147_133r, E147_134, E147_137, E147_138, E147_141r, E147_143, E147_146, E147_148, if_false]
        have hrb9 : ∀ b, rb = some b → ρ1 b = some 5 := hrb
        by_cases h10 : tw = 0
        · rw [if_pos h10]
          exact obey ρ1 h9 0 none G9' hrb9 (fun b e => by cases e)
        · rw [if_neg h10]
          have hclx9 := jh_cl G9.1.1 hx1 (q := 0) rfl
          have hE9 := (G9'.2.2.2.1 a ha).mpr hE
          obtain ⟨r2, ρ3, h11, f11, G11⟩ := jg_reach (d := d + 1) (y := s) G9'.1 ha1 hE9
          have G11' := jg_G_tr G9' G11
          have s4 : jv_ev (jv_run (d + 4)) 147 84 [some (.ref x), some (.ref a), some (.int 0), some (va_rf rb), some (.long od2), none, some (.int fn), some (.int s), some (va_rf none), none] [] h9 = jv_ev (jv_run (d + 4)) 147 92 [some (.ref x), some (.ref a), some (.int r2), some (va_rf rb), some (.long od2), none, some (.int fn), some (.int s), some (va_rf none), none] [] h11 := by
            simp (disch := first | omega | exact id rfl | exact jd_i | exact jd_r | exact jd_n | exact jd_f | decide | (simp (disch := omega) only [f11, hclx9, Option.isSome_some])) only [f11, hclx9, Option.isSome_some, Option.getD_some, Option.toList_some, Option.toList_none, List.cons_append, List.nil_append, E147_84, E147_85, E147_86, E147_88, E147_91]
          rw [s4]
          by_cases h12 : r2 = 0
          · subst h12
            have ha3 := G11.2.1.1 a 4 ha1
            have hcla11 := jh_cl G11.1.1 ha3 (q := 4) rfl
            obtain ⟨rw2, h13, f13, G13, hrw⟩ := jg_lr (jc_s95 (d + 2)) rfl G11.1 (as := [.ref a, .int s]) ⟨jg_vr ha3, jk_V_top, True.intro⟩
            obtain ⟨r, ρ', h', e', G'⟩ := obey ρ3 h13 0 rw2 (jg_G_tr G11' G13) (fun b e => G11.2.1.1 b 5 (hrb9 b e)) hrw
            refine ⟨r, ρ', h', ?_, G'⟩
            rw [← e']
            simp (disch := first | omega | exact id rfl | exact jd_i | exact jd_r | exact jd_n | exact jd_f | decide | (simp (disch := omega) only [f13, hcla11, Option.isSome_some])) only [f13, hcla11, Option.isSome_some, Option.getD_some, Option.toList_some, Option.toList_none, List.cons_append, List.nil_append, E147_92, E147_93, E147_98, E147_99, E147_101, E147_104r, if_true]
          · refine ⟨r2, ρ3, h11, ?_, G11'⟩
            simp (disch := first | omega | exact id rfl | exact jd_i | exact jd_r | exact jd_n | exact jd_f | decide | (simp (disch := omega) only [h12, Option.isSome_some])) only [h12, Option.isSome_some, Option.getD_some, Option.toList_some, Option.toList_none, List.cons_append, List.nil_append, E147_92, E147_93, E147_96, E147_97, if_false]
    · refine ⟨r1, ρ1, h2, ?_, G1⟩
      simp (disch := first | omega | exact id rfl | exact jd_i | exact jd_r | exact jd_n | exact jd_f | decide | (simp (disch := omega) only [h3, Option.isSome_some])) only [h3, Option.isSome_some, Option.getD_some, Option.toList_some, Option.toList_none, List.cons_append, List.nil_append, E147_23, E147_24, E147_27, E147_28, if_false]
  · refine ⟨nI 2, ρ, h, ?_, jg_G_rf hI⟩
    simp (disch := first | omega | exact id rfl | exact jd_i | exact jd_r | exact jd_n | exact jd_f | decide | (simp (disch := omega) only [e1, e2, h1, Option.isSome_some])) only [e1, e2, h1, Option.isSome_some, Option.getD_some, Option.toList_some, Option.toList_none, List.cons_append, List.nil_append, E147_0, E147_1, E147_4, E147_5, E147_8, E147_11, E147_12, if_false]
end JG
