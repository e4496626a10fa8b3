/-! a block is reached -/
section JG
variable {ρ : jk_R} {h h' : jv_H} {d b0 s0 x : Nat}
theorem jg_blockOf {a k : Nat} (hO : jk_Ok jc_RT ρ h) (ha : ρ a = some 4) (hk : k < 1024) : ∃ r, jv_run (d + 2) 95 [.ref a, .int (nI k)] h = some (some (va_rf r), h) ∧ jg_B h a (k / 16) = some (va_rf r) ∧ ∀ b, r = some b → ρ b = some 5 := by
  obtain ⟨p, e1, hp⟩ := jg_ref (k := 6) hO ha rfl rfl
  have b1 : ¬ nI k < 0 := nI_pos (by omega)
  have b2 : ¬ nI 1024 ≤ nI k := by rw [nI_leI (by decide) (by omega)]; omega
  have e2 : nI k / nI 16 = nI (k / 16) := pk_div (by omega) (by decide) (by decide)
  have ht : (nI (k / 16)).toInt = ((k / 16 : Nat) : Int) := nI_toInt (by omega)
  obtain ⟨u, e3, hu⟩ := jh_ld (x := nI (k / 16)) hO hp (q := 14) (kd := 3) rfl rfl (by rw [ht]; omega) (by rw [ht]; omega)
  have e4 := jh_kn hO hp (q := 14) (kd := 3) rfl rfl (by decide)
  obtain ⟨r, rfl, hr⟩ := jh_rfn hu
  refine ⟨r, ?_, ?_, hr⟩
  · rw [N95]
    have hin : ¬ (nI 1 : Int32) = 0 := by decide
    simp (disch := first | omega | exact id rfl | exact jd_i | exact jd_r | exact jd_n | exact jd_f | decide | (simp (disch := omega) only [jh_inStore, b1, b2, e1, e2, e3, e4, hin, Option.isSome_some])) only [jh_inStore, b1, b2, e1, e2, e3, e4, hin, Option.isSome_some, Option.getD_some, Option.toList_some, Option.toList_none, List.cons_append, List.nil_append, E95_0, E95_1, E95_4, E95_7, E95_8, E95_11, E95_12, E95_14, E95_15, E95_16, E95_19, E95_20, E95_20n, E95_20r, if_true, if_false]
  · unfold jg_B
    rw [e1]
    exact e3
theorem jg_reach {a : Nat} {y : Int32} (hI : jg_I 0 b0 s0 ρ h x) (ha : ρ a = some 4) (hE : jg_E h a) : ∃ r ρ' h', jv_run (d + 3) 148 [.ref x, .ref a, .int y] h = some (some (.int r), h') ∧ jg_G 0 b0 s0 ρ h x ρ' h' := by
  have hO := hI.1
  have hx := hI.2.1
  rw [show jv_run (d + 3) 148 [.ref x, .ref a, .int y] h = jv_ev (jv_run (d + 2)) 148 0 [some (.ref x), some (.ref a), some (.int y), none, none] [] h from N148 (a0 := some a)]
  by_cases h1 : y < 0
  · refine ⟨nI 4, ρ, h, ?_, jg_G_rf hI⟩
    simp (disch := first | omega | exact id rfl | exact jd_i | exact jd_r | exact jd_n | exact jd_f | decide | (simp (disch := omega) only [jh_inStore, h1, Option.isSome_some])) only [jh_inStore, h1, Option.isSome_some, Option.getD_some, Option.toList_some, Option.toList_none, List.cons_append, List.nil_append, E148_0, E148_1, E148_4, E148_7, E148_8, if_true, if_false]
    rfl
  · by_cases h2 : nI 1024 ≤ y
    · refine ⟨nI 4, ρ, h, ?_, jg_G_rf hI⟩
      simp (disch := first | omega | exact id rfl | exact jd_i | exact jd_r | exact jd_n | exact jd_f | decide | (simp (disch := omega) only [jh_inStore, h1, h2, Option.isSome_some])) only [jh_inStore, h1, h2, Option.isSome_some, Option.getD_some, Option.toList_some, Option.toList_none, List.cons_append, List.nil_append, E148_0, E148_1, E148_4, E148_7, E148_8, if_true, if_false]
      rfl
    · obtain ⟨k, hk, rfl⟩ := nI_of h1
      have hk2 : k < 1024 := by
        rw [nI_leI (by decide) hk] at h2
        omega
      obtain ⟨rb, f1, hB, hrb⟩ := jg_blockOf (d := d) hO ha hk2
      have hcla := jh_cl hO ha (q := 4) rfl
      have hin : ¬ (nI 1 : Int32) = 0 := by decide
      /- up to the block -/
      have start : jv_ev (jv_run (d + 2)) 148 0 [some (.ref x), some (.ref a), some (.int (nI k)), none, none] [] h = jv_ev (jv_run (d + 2)) 148 15 [some (.ref x), some (.ref a), some (.int (nI k)), some (va_rf rb), none] [] h := by
        simp (disch := first | omega | exact id rfl | exact jd_i | exact jd_r | exact jd_n | exact jd_f | decide | (simp (disch := omega) only [jh_inStore, h1, h2, f1, hcla, hin, Option.isSome_some])) only [jh_inStore, h1, h2, f1, hcla, hin, Option.isSome_some, Option.getD_some, Option.toList_some, Option.toList_none, List.cons_append, List.nil_append, E148_0, E148_1, E148_4, E148_9, E148_10, E148_11, E148_14r, if_true, if_false, not_false_eq_true]
      rw [start]
      /- a free frame is looked for -/
      have look : ∀ (rb : Option Nat) (hrb : ∀ b, rb = some b → ρ b = some 5) (hnew : rb = none → jg_B h a (k / 16) = some .null), ∃ r ρ' h', jv_ev (jv_run (d + 2)) 148 49 [some (.ref x), some (.ref a), some (.int (nI k)), some (va_rf rb), none] [] h = some (some (.int r), h') ∧ jg_G 0 b0 s0 ρ h x ρ' h' := fun rb hrb hnew => by
        obtain ⟨co, e2, hco⟩ := jg_ref (k := 1) hO hx rfl rfl
        have hclc := jh_cl hO hco (q := 2) rfl
        obtain ⟨r3, h3, f3, hO3, hF3, hR3⟩ := jc_s70 d _ _ rfl ρ h [.ref co] hO ⟨Or.inr ⟨co, rfl, hco⟩, True.intro⟩
        cases r3 with
        | none => exact hR3.elim
        | some v =>
          obtain ⟨fr, rfl, _⟩ := hR3
          have G3 := jg_G_fr hI hO3 hF3
          have s1 : jv_ev (jv_run (d + 2)) 148 49 [some (.ref x), some (.ref a), some (.int (nI k)), some (va_rf rb), none] [] h = jv_ev (jv_run (d + 2)) 148 58 [some (.ref x), some (.ref a), some (.int (nI k)), some (va_rf rb), some (.int fr)] [] h3 := by
            simp (disch := first | omega | exact id rfl | exact jd_i | exact jd_r | exact jd_n | exact jd_f | decide | (simp (disch := omega) only [e2, f3, hclc, Option.isSome_some])) only [e2, f3, hclc, Option.isSome_some, Option.getD_some, Option.toList_some, Option.toList_none, List.cons_append, List.nil_append, E148_49, E148_50, E148_53, E148_56]
          rw [s1]
          by_cases h4 : fr = -1
          · subst h4
            obtain ⟨h5, f5, hO5, hz5, hn5, _, hg5, ha5⟩ := jg_put (k := 15) (v := .int (nI 1)) hO3 ha rfl rfl ⟨_, rfl, by decide, by decide⟩ rfl
            refine ⟨-1, ρ, h5, ?_, jg_G_tr G3 (jg_G_put G3.1 hO5 hz5 hn5 hg5 ha5 (by simp [jg_key]) (by simp))⟩
            simp (disch := first | omega | exact id rfl | exact jd_i | exact jd_r | exact jd_n | exact jd_f | decide | (simp (disch := omega) only [f5, Option.isSome_some])) only [f5, Option.isSome_some, Option.getD_some, Option.toList_some, Option.toList_none, List.cons_append, List.nil_append, E148_58, E148_60, E148_61, E148_64, E148_65, E148_66, E148_69, E148_70, if_false, not_true_eq_false]
          · have s2 : jv_ev (jv_run (d + 2)) 148 58 [some (.ref x), some (.ref a), some (.int (nI k)), some (va_rf rb), some (.int fr)] [] h3 = jv_ev (jv_run (d + 2)) 148 71 [some (.ref x), some (.ref a), some (.int (nI k)), some (va_rf rb), some (.int fr)] [] h3 := by
              simp (disch := first | omega | exact id rfl | exact jd_i | exact jd_r | exact jd_n | exact jd_f | decide | (simp (disch := omega) only [h4, Option.isSome_some])) only [h4, Option.isSome_some, Option.getD_some, Option.toList_some, Option.toList_none, List.cons_append, List.nil_append, E148_58, E148_60, E148_61, if_true, not_false_eq_true]
            rw [s2]
            obtain ⟨co3, e5, hco3⟩ := jg_ref (k := 1) hO3 hx rfl rfl
            have hclx3 := jh_cl hO3 hx (q := 0) rfl
            have k16 : nI k / nI 16 = nI (k / 16) := pk_div (by omega) (by decide) (by decide)
            have d16 : ¬ (nI 16 : Int32) = 0 := by decide
            cases rb with
            | none =>
              have hB3 : jg_B h3 a (k / 16) = some .null := by rw [jg_Bk hO hF3 ha]; exact hnew rfl
              obtain ⟨h6, f6, G6, hO6, _⟩ := jg_create (d := d) G3.1 ha ((jg_Ek hO hF3 ha).mpr hE) (by omega) hB3
              have f6' : jv_run (d + 2) 150 [.ref x, .ref a, .int (nI (k / 16))] h3 = some (some (.ref h3.2.1), h6) := f6
              have hnone : ρ h3.2.1 = none := G3.1.2.2.1 _ (Nat.le_refl _)
              have hco6 : va_up ρ h3.2.1 (some 5) co3 = some 2 := by
                rw [jz_un (fun q => by rw [q, hnone] at hco3; cases hco3)]; exact hco3
              have hcl6 := jh_cl hO6 hco6 (q := 2) rfl
              obtain ⟨r7, h7, f7, hO7, hF7, hR7⟩ := jc_s71 (d + 1) _ _ rfl (va_up ρ h3.2.1 (some 5)) h6 [.ref co3, .ref h3.2.1, .int fr] hO6 ⟨Or.inr ⟨co3, rfl, hco6⟩, Or.inr ⟨_, rfl, jz_us⟩, jk_V_top, True.intro⟩
              cases r7 with
              | some v => exact hR7.elim
              | none =>
                refine ⟨nI 0, va_up ρ h3.2.1 (some 5), h7, ?_, jg_G_tr G3 (jg_G_tr G6 (jg_G_fr G6.1 hO7 hF7))⟩
                simp (disch := first | omega | exact id rfl | exact jd_i | exact jd_r | exact jd_n | exact jd_f | decide | (simp (disch := omega) only [e5, Option.isSome_some])) only [e5, Option.isSome_some, Option.getD_some, Option.toList_some, Option.toList_none, List.cons_append, List.nil_append, E148_71r]
                rw [E148_72r, if_pos rfl]
                simp (disch := first | omega | exact id rfl | exact jd_i | exact jd_r | exact jd_n | exact jd_f | decide | (simp (disch := omega) only [e5, f6', f7, hclx3, hcl6, k16, d16, Option.isSome_some])) only [e5, f6', f7, hclx3, hcl6, k16, d16, Option.isSome_some, Option.getD_some, Option.toList_some, Option.toList_none, List.cons_append, List.nil_append, E148_75, E148_76, E148_79, E148_80, E148_81, E148_82, E148_84, E148_85, E148_88, E148_90, E148_93, E148_94]
            | some b =>
              have hb := hrb b rfl
              have hcl3 := jh_cl hO3 hco3 (q := 2) rfl
              obtain ⟨r7, h7, f7, hO7, hF7, hR7⟩ := jc_s71 (d + 1) _ _ rfl ρ h3 [.ref co3, .ref b, .int fr] hO3 ⟨Or.inr ⟨co3, rfl, hco3⟩, Or.inr ⟨b, rfl, hb⟩, jk_V_top, True.intro⟩
              cases r7 with
              | some v => exact hR7.elim
              | none =>
                have G7 := jg_G_tr G3 (jg_G_fr G3.1 hO7 hF7)
                obtain ⟨h8, f8, hO8, hz8, hn8, _, hg8, ha8⟩ := jg_put (k := 4) (v := .int (nI 1)) hO7 hb rfl rfl ⟨_, rfl, by decide, by decide⟩ rfl
                have G8 := jg_G_tr G7 (jg_G_put G7.1 hO8 hz8 hn8 hg8 ha8 (by simp [jg_key]) (by simp))
                obtain ⟨dr, e9, hdr⟩ := jg_ref (k := 2) hO8 hx rfl rfl
                have hcl9 := jh_cl hO8 hdr (q := 3) rfl
                obtain ⟨r9, h9, f9, hO9, hF9, hR9⟩ := jc_s81 (d + 1) _ _ rfl ρ h8 [.ref dr, .ref b] hO8 ⟨Or.inr ⟨dr, rfl, hdr⟩, Or.inr ⟨b, rfl, hb⟩, True.intro⟩
                cases r9 with
                | some v => exact hR9.elim
                | none =>
                  have G9 := jg_G_tr G8 (jg_G_fr G8.1 hO9 hF9)
                  obtain ⟨h10, f10, hO10, hz10, hn10, _, hg10, ha10⟩ := jg_put (k := 14) (v := .ref b) hO9 ha rfl rfl (Or.inr ⟨b, rfl, hb⟩) rfl
                  refine ⟨-1, ρ, h10, ?_, jg_G_tr G9 (jg_G_put G9.1 hO10 hz10 hn10 hg10 ha10 (by simp [jg_key]) (by simp))⟩
                  simp (disch := first | omega | exact id rfl | exact jd_i | exact jd_r | exact jd_n | exact jd_f | decide | (simp (disch := omega) only [e5, Option.isSome_some])) only [e5, Option.isSome_some, Option.getD_some, Option.toList_some, Option.toList_none, List.cons_append, List.nil_append, E148_71r]
                  rw [E148_72r, if_neg (by simp)]
                  have cv : (some (va_rf (some b)) : Option Value) = some (.ref b) := rfl
                  rw [cv]
                  simp (disch := first | omega | exact id rfl | exact jd_i | exact jd_r | exact jd_n | exact jd_f | decide | (simp (disch := omega) only [e5, f7, f8, e9, f9, f10, hcl3, hcl9, Option.isSome_some])) only [e5, f7, f8, e9, f9, f10, hcl3, hcl9, Option.isSome_some, Option.getD_some, Option.toList_some, Option.toList_none, List.cons_append, List.nil_append, E148_95, E148_96, E148_99, E148_100, E148_102, E148_105, E148_106, E148_107, E148_110, E148_111, E148_114, E148_115, E148_118, E148_119, E148_120, E148_123, E148_124]
      cases rb with
      | none =>
        obtain ⟨w, e3, hw⟩ := jh_get (k := 6) hO hx rfl rfl
        obtain ⟨ex, rfl, _⟩ := hw
        by_cases h3 : ex < nI 64
        · obtain ⟨r, ρ', h', e', G'⟩ := look none (fun b e => by cases e) (fun _ => hB)
          refine ⟨r, ρ', h', ?_, G'⟩
          rw [← e']
          simp (disch := first | omega | exact id rfl | exact jd_i | exact jd_r | exact jd_n | exact jd_f | decide | (simp (disch := omega) only [e3, Option.isSome_some])) only [e3, Option.isSome_some, Option.getD_some, Option.toList_some, Option.toList_none, List.cons_append, List.nil_append, E148_15r]
          rw [E148_16r, if_pos rfl]
          simp (disch := first | omega | exact id rfl | exact jd_i | exact jd_r | exact jd_n | exact jd_f | decide | (simp (disch := omega) only [e3, h3, Option.isSome_some])) only [e3, h3, Option.isSome_some, Option.getD_some, Option.toList_some, Option.toList_none, List.cons_append, List.nil_append, E148_19, E148_20, E148_23, E148_25, E148_30r, if_true]
          rw [E148_31r, if_pos rfl]
        · refine ⟨nI 5, ρ, h, ?_, jg_G_rf hI⟩
          simp (disch := first | omega | exact id rfl | exact jd_i | exact jd_r | exact jd_n | exact jd_f | decide | (simp (disch := omega) only [e3, Option.isSome_some])) only [e3, Option.isSome_some, Option.getD_some, Option.toList_some, Option.toList_none, List.cons_append, List.nil_append, E148_15r]
          rw [E148_16r, if_pos rfl]
          simp (disch := first | omega | exact id rfl | exact jd_i | exact jd_r | exact jd_n | exact jd_f | decide | (simp (disch := omega) only [e3, h3, Option.isSome_some])) only [e3, h3, Option.isSome_some, Option.getD_some, Option.toList_some, Option.toList_none, List.cons_append, List.nil_append, E148_19, E148_20, E148_23, E148_25, E148_28, E148_29, if_false]
      | some b =>
        have hb := hrb b rfl
        obtain ⟨w, e3, hw⟩ := jh_get (k := 2) hO hb rfl rfl
        obtain ⟨fr, rfl, _⟩ := hw
        have cv : (some (va_rf (some b)) : Option Value) = some (.ref b) := rfl
        by_cases h3 : fr = -1
        · obtain ⟨r, ρ', h', e', G'⟩ := look (some b) hrb (fun e => by cases e)
          refine ⟨r, ρ', h', ?_, G'⟩
          rw [← e', cv]
          subst h3
          simp (disch := first | omega | exact id rfl | exact jd_i | exact jd_r | exact jd_n | exact jd_f | decide | (simp (disch := omega) only [e3, Option.isSome_some])) only [e3, Option.isSome_some, Option.getD_some, Option.toList_some, Option.toList_none, List.cons_append, List.nil_append, E148_15, E148_16, E148_30, E148_31, E148_34, E148_35, E148_38, E148_39, if_true]
        · have hclx := jh_cl hO hx (q := 0) rfl
          obtain ⟨r4, h4, f4, hO4, hF4, hR4⟩ := jc_s149 (d + 1) _ _ rfl ρ h [.ref x, .ref a, .ref b] hO ⟨Or.inr ⟨x, rfl, hx⟩, Or.inr ⟨a, rfl, ha⟩, Or.inr ⟨b, rfl, hb⟩, True.intro⟩
          cases r4 with
          | none => exact hR4.elim
          | some v =>
            obtain ⟨z, rfl, _⟩ := hR4
            refine ⟨z, ρ, h4, ?_, jg_G_fr hI hO4 hF4⟩
            rw [cv]
            simp (disch := first | omega | exact id rfl | exact jd_i | exact jd_r | exact jd_n | exact jd_f | decide | (simp (disch := omega) only [e3, f4, hclx, h3, Option.isSome_some])) only [e3, f4, hclx, h3, Option.isSome_some, Option.getD_some, Option.toList_some, Option.toList_none, List.cons_append, List.nil_append, E148_15, E148_16, E148_30, E148_31, E148_34, E148_35, E148_38, E148_39, E148_42, E148_43, E148_44, E148_45, E148_48, if_false]
end JG
