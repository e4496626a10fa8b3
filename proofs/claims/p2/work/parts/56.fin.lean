/-! a transfer's end; who is next; a block is reached -/
section JG
variable {ρ : jk_R} {h h' : jv_H} {d b0 s0 x : Nat}
theorem jg_finish (hI : jg_I 0 b0 s0 ρ h x) (hA : jg_A ρ h) : ∃ h', jv_run (d + 3) 142 [.ref x] h = some (none, h') ∧ jg_Y 0 b0 s0 ρ h x ρ h' := by
  have hO := hI.1
  have hx := hI.2.1
  rw [N142]
  obtain ⟨dr, e1, hdr⟩ := jg_ref (k := 2) hO hx rfl rfl
  have hcl1 := jh_cl hO hdr (q := 3) rfl
  obtain ⟨w, e2, hw⟩ := jh_get (k := 8) hO hx rfl rfl
  obtain ⟨nw, rfl, _⟩ := hw
  obtain ⟨r1, h1, f1, hO1, hF1, hR1⟩ := jc_s85 (d + 1) _ _ rfl ρ h [.ref dr, .int nw] hO ⟨Or.inr ⟨dr, rfl, hdr⟩, jk_V_top, True.intro⟩
  cases r1 with
  | none => exact hR1.elim
  | some v =>
    obtain ⟨rb, rfl, hrb⟩ := jh_rfn hR1
    have Y1 := jg_Y_G (jg_G_fr hI hO1 hF1) hA
    cases rb with
    | none =>
      refine ⟨h1, ?_, Y1⟩
      simp (disch := first | omega | exact id rfl | exact jd_i | exact jd_r | exact jd_n | exact jd_f | decide | (simp (disch := omega) only [e1, e2, f1, hcl1, Option.isSome_some])) only [e1, e2, f1, hcl1, Option.isSome_some, Option.getD_some, Option.toList_some, Option.toList_none, List.cons_append, List.nil_append, E142_0, E142_1, E142_4, E142_5, E142_8, E142_11r, E142_12r]
      rw [E142_13r, if_pos rfl]
      simp (disch := first | omega | exact id rfl | exact jd_i | exact jd_r | exact jd_n | exact jd_f | decide | (simp (disch := omega) only [e1, Option.isSome_some])) only [e1, Option.isSome_some, Option.getD_some, Option.toList_some, Option.toList_none, List.cons_append, List.nil_append, E142_16]
    | some b =>
      have hb := hrb b rfl
      have start : jv_ev (jv_run (d + 2)) 142 0 [some (.ref x), none] [] h = jv_ev (jv_run (d + 2)) 142 17 [some (.ref x), some (.ref b)] [] h1 := by
        simp (disch := first | omega | exact id rfl | exact jd_i | exact jd_r | exact jd_n | exact jd_f | decide | (simp (disch := omega) only [e1, e2, f1, hcl1, Option.isSome_some])) only [e1, e2, f1, hcl1, Option.isSome_some, Option.getD_some, Option.toList_some, Option.toList_none, List.cons_append, List.nil_append, E142_0, E142_1, E142_4, E142_5, E142_8, E142_11r, E142_12r]
        rw [E142_13r, if_neg (by simp)]
        rfl
      rw [start]
      obtain ⟨w, e3, hw⟩ := jh_get (k := 5) hO1 hb rfl rfl
      obtain ⟨lv, rfl, _⟩ := hw
      by_cases h3 : lv = 0
      · subst h3
        obtain ⟨co, e4, hco⟩ := jg_ref (k := 1) hO1 hx rfl rfl
        obtain ⟨w, e5, hw⟩ := jh_get (k := 3) hO1 hco rfl rfl
        obtain ⟨rd, rfl, _⟩ := hw
        have hcl2 := jh_cl hO1 hb (q := 5) rfl
        obtain ⟨r2, h2, f2, hO2, hF2, hR2⟩ := jc_s61 (d + 1) _ _ rfl ρ h1 [.ref b, .int rd] hO1 ⟨Or.inr ⟨b, rfl, hb⟩, jk_V_top, True.intro⟩
        cases r2 with
        | some v => exact hR2.elim
        | none =>
          refine ⟨h2, ?_, jg_Y_tr Y1 (jg_Y_G (jg_G_fr Y1.1 hO2 hF2) Y1.2.1)⟩
          simp (disch := first | omega | exact id rfl | exact jd_i | exact jd_r | exact jd_n | exact jd_f | decide | (simp (disch := omega) only [e3, e4, e5, f2, hcl2, Option.isSome_some])) only [e3, e4, e5, f2, hcl2, Option.isSome_some, Option.getD_some, Option.toList_some, Option.toList_none, List.cons_append, List.nil_append, E142_17, E142_18, E142_21, E142_24, E142_25, E142_26, E142_29, E142_32, E142_35, not_true_eq_false, if_false]
      · obtain ⟨co, e4, hco⟩ := jg_ref (k := 1) hO1 hx rfl rfl
        have hcl2 := jh_cl hO1 hco (q := 2) rfl
        obtain ⟨r2, h2, f2, hO2, hF2, hR2⟩ := jc_s72 (d + 1) _ _ rfl ρ h1 [.ref co, .ref b] hO1 ⟨Or.inr ⟨co, rfl, hco⟩, Or.inr ⟨b, rfl, hb⟩, True.intro⟩
        cases r2 with
        | some v => exact hR2.elim
        | none =>
          have Y2 := jg_Y_tr Y1 (jg_Y_G (jg_G_fr Y1.1 hO2 hF2) Y1.2.1)
          obtain ⟨h3', f3, hO3, hz3, hn3, _, hg3, ha3⟩ := jg_put (k := 4) (v := .int (nI 0)) hO2 hb rfl rfl ⟨_, rfl, by decide, by decide⟩ rfl
          have Y3 := jg_Y_tr Y2 (jg_Y_G (jg_G_put Y2.1 hO3 hz3 hn3 hg3 ha3 (by simp [jg_key]) (by simp)) Y2.2.1)
          obtain ⟨h4, f4, hO4, hz4, hn4, _, hg4, ha4⟩ := jg_put (k := 5) (v := .int (nI 0)) hO3 hb rfl rfl ⟨_, rfl, by decide, by decide⟩ rfl
          have Y4 := jg_Y_tr Y3 (jg_Y_G (jg_G_put Y3.1 hO4 hz4 hn4 hg4 ha4 (by simp [jg_key]) (by simp)) Y3.2.1)
          obtain ⟨a, e5, ha⟩ := jg_ref (k := 0) hO4 hb rfl rfl
          obtain ⟨w, e6, hw⟩ := jh_get (k := 12) hO4 ha rfl rfl
          obtain ⟨en, rfl, _⟩ := hw
          by_cases h5 : en = 0
          · subst h5
            refine ⟨h4, ?_, Y4⟩
            simp (disch := first | omega | exact id rfl | exact jd_i | exact jd_r | exact jd_n | exact jd_f | decide | (simp (disch := omega) only [e3, e4, e5, e6, f2, f3, f4, hcl2, h3, Option.isSome_some])) only [e3, e4, e5, e6, f2, f3, f4, hcl2, h3, Option.isSome_some, Option.getD_some, Option.toList_some, Option.toList_none, List.cons_append, List.nil_append, E142_17, E142_18, E142_21, E142_36, E142_37, E142_40, E142_41, E142_44, E142_45, E142_46, E142_49, E142_50, E142_51, E142_54, E142_55, E142_58, E142_61, E142_69, if_true, not_false_eq_true]
          · have hE : ¬ jg_E h4 a := fun q => by
              unfold jg_E at q
              rw [e6] at q
              simp only [Option.some.injEq, Value.int.injEq] at q
              exact h5 q
            obtain ⟨h6, f6, G6⟩ := jg_forget (d := d) Y4.1 hb e5 hE
            have hclx := jh_cl hO4 hx (q := 0) rfl
            refine ⟨h6, ?_, jg_Y_tr Y4 (jg_Y_G G6 Y4.2.1)⟩
            simp (disch := first | omega | exact id rfl | exact jd_i | exact jd_r | exact jd_n | exact jd_f | decide | (simp (disch := omega) only [e3, e4, e5, e6, f2, f3, f4, f6, hcl2, hclx, h3, h5, Option.isSome_some])) only [e3, e4, e5, e6, f2, f3, f4, f6, hcl2, hclx, h3, h5, Option.isSome_some, Option.getD_some, Option.toList_some, Option.toList_none, List.cons_append, List.nil_append, E142_17, E142_18, E142_21, E142_36, E142_37, E142_40, E142_41, E142_44, E142_45, E142_46, E142_49, E142_50, E142_51, E142_54, E142_55, E142_58, E142_61, E142_64, E142_65, E142_66, E142_69, if_true, if_false, not_false_eq_true]
/-- the job in hand: none, or one that is active -/
theorem jg_next_l {n : Nat} {js c : Nat → Nat} (hx : ρ x = some 0) (s : Int32) : ∀ (t i : Nat), i + t = n → ∀ (h : jv_H) (l3 l4 : Option Value), ¬ jv_is2 (some l3) = true → jg_I 0 b0 s0 ρ h x → jg_A ρ h → jg_J ρ h x n n js c → ∃ h' y, jv_ev (jv_run (d + 1)) 144 11 [some (.ref x), some (.int s), some (.int (nI i)), l3, l4] [] h = some (some (.int y), h') ∧ jg_G 0 b0 s0 ρ h x ρ h' ∧ jg_J ρ h' x n n js c ∧ (y = -1 ∨ ∃ j, j < n ∧ y = nI j ∧ jg_E h' (js j))
  | 0, i, hi, h, l3, l4, hl, hI, hA, hJ => by
    have e : i = n := by omega
    subst e
    have h1 := hJ.1
    have e1 := hJ.2.1
    refine ⟨h, -1, ?_, jg_G_rf hI, hJ, Or.inl rfl⟩
    have b1 : nI i ≤ nI i := by rw [nI_leI (by omega) (by omega)]; exact Nat.le_refl _
    simp (disch := first | omega | exact id rfl | exact jd_i | exact jd_r | exact jd_n | exact jd_f | decide | (simp (disch := omega) only [e1, b1, Option.isSome_some])) only [e1, b1, Option.isSome_some, Option.getD_some, Option.toList_some, Option.toList_none, List.cons_append, List.nil_append, E144_11, E144_12, E144_13, E144_16, E144_95, E144_96, if_true]
  | t + 1, i, hi, h, l3, l4, hl, hI, hA, hJ => by
    have h1 := hJ.1
    have e1 := hJ.2.1
    have hO := hI.1
    have hclx := jh_cl hO hx (q := 0) rfl
    have b1 : ¬ nI n ≤ nI i := by rw [nI_leI (by omega) (by omega)]; omega
    /- behind the choice of j -/
    have body : ∀ jj : Int32, ∃ h' y, jv_ev (jv_run (d + 1)) 144 43 [some (.ref x), some (.int s), some (.int (nI i)), l3, l4] [.int jj] h = some (some (.int y), h') ∧ jg_G 0 b0 s0 ρ h x ρ h' ∧ jg_J ρ h' x n n js c ∧ (y = -1 ∨ ∃ j, j < n ∧ y = nI j ∧ jg_E h' (js j)) := fun jj => by
      have again : ∀ (h2 : jv_H) (l4 : Option Value), jg_G 0 b0 s0 ρ h x ρ h2 → jg_J ρ h2 x n n js c → ∃ h' y, jv_ev (jv_run (d + 1)) 144 89 [some (.ref x), some (.int s), some (.int (nI i)), some (.int jj), l4] [] h2 = some (some (.int y), h') ∧ jg_G 0 b0 s0 ρ h x ρ h' ∧ jg_J ρ h' x n n js c ∧ (y = -1 ∨ ∃ j, j < n ∧ y = nI j ∧ jg_E h' (js j)) := fun h2 l4 G2 J2 => by
        obtain ⟨h', y, e', G', J', r'⟩ := jg_next_l hx s t (i + 1) (by omega) h2 (some (.int jj)) l4 jd_i G2.1 (G2.2.2.2.2 hA) J2
        refine ⟨h', y, ?_, jg_G_tr G2 G', J', r'⟩
        rw [← e']
        simp (disch := first | omega | exact id rfl | exact jd_i | exact jd_r | exact jd_n | exact jd_f | decide | (simp (disch := omega) only [nI_add, Option.isSome_some])) only [nI_add, Option.isSome_some, Option.getD_some, Option.toList_some, Option.toList_none, List.cons_append, List.nil_append, E144_89, E144_92]
      by_cases q : ∃ j, j < n ∧ jj = nI j
      · obtain ⟨j, hj, rfl⟩ := q
        have f1 := jg_find (d := d) hO hx hJ hj
        obtain ⟨a1, _⟩ := hJ.2.2.1 j hj
        obtain ⟨w, e2, hw⟩ := jh_get (k := 13) hO a1 rfl rfl
        obtain ⟨ac, rfl, _⟩ := hw
        by_cases h3 : ac = 0
        · obtain ⟨h', y, e', r'⟩ := again h (some (.ref (js j))) (jg_G_rf hI) hJ
          refine ⟨h', y, ?_, r'⟩
          rw [← e']
          subst h3
          simp (disch := first | omega | exact id rfl | exact jd_i | exact jd_r | exact jd_n | exact jd_f | decide | (simp (disch := omega) only [f1, e2, hclx, hl, Option.isSome_some])) only [f1, e2, hclx, hl, Option.isSome_some, Option.getD_some, Option.toList_some, Option.toList_none, List.cons_append, List.nil_append, E144_43, E144_44, E144_45, E144_46, E144_49, E144_51, E144_53, E144_56, E144_58, E144_61, if_true]
        · have hE : jg_E h (js j) := hA (js j) a1 (fun q => by
            rw [e2] at q
            simp only [Option.some.injEq, Value.int.injEq] at q
            exact h3 q)
          obtain ⟨co, e4, hco⟩ := jg_ref (k := 1) hO hx rfl rfl
          obtain ⟨w, e5, hw⟩ := jh_get (k := 2) hO hco rfl rfl
          obtain ⟨fr, rfl, _⟩ := hw
          have hclj := jh_cl hO a1 (q := 4) rfl
          have fin : ∀ bb : Int32, bb = nI 0 ∨ bb = nI 1 → ∃ h' y, jv_ev (jv_run (d + 1)) 144 81 [some (.ref x), some (.int s), some (.int (nI i)), some (.int (nI j)), some (.ref (js j))] [.int bb, .ref (js j)] h = some (some (.int y), h') ∧ jg_G 0 b0 s0 ρ h x ρ h' ∧ jg_J ρ h' x n n js c ∧ (y = -1 ∨ ∃ j, j < n ∧ y = nI j ∧ jg_E h' (js j)) := fun bb hbb => by
            obtain ⟨r6, h6, f6, hO6, hF6, hR6⟩ := jc_s92 d _ _ rfl ρ h [.ref (js j), .int bb] hO ⟨Or.inr ⟨js j, rfl, a1⟩, (by rcases hbb with rfl | rfl; exact ⟨_, rfl, by decide, by decide⟩; exact ⟨_, rfl, by decide, by decide⟩), True.intro⟩
            cases r6 with
            | none => exact hR6.elim
            | some v =>
              obtain ⟨z, rfl, _⟩ := hR6
              have G6 := jg_G_fr hI hO6 hF6
              have J6 := jg_Jk hO hx hF6 hJ
              by_cases h7 : z = 0
              · obtain ⟨h', y, e', r'⟩ := again h6 (some (.ref (js j))) G6 J6
                refine ⟨h', y, ?_, r'⟩
                rw [← e']
                subst h7
                simp (disch := first | omega | exact id rfl | exact jd_i | exact jd_r | exact jd_n | exact jd_f | decide | (simp (disch := omega) only [f6, hclj, Option.isSome_some])) only [f6, hclj, Option.isSome_some, Option.getD_some, Option.toList_some, Option.toList_none, List.cons_append, List.nil_append, E144_81, E144_84, if_true]
              · refine ⟨h6, nI j, ?_, G6, J6, Or.inr ⟨j, hj, rfl, (G6.2.2.2.1 (js j) a1).mpr hE⟩⟩
                simp (disch := first | omega | exact id rfl | exact jd_i | exact jd_r | exact jd_n | exact jd_f | decide | (simp (disch := omega) only [f6, hclj, h7, Option.isSome_some])) only [f6, hclj, h7, Option.isSome_some, Option.getD_some, Option.toList_some, Option.toList_none, List.cons_append, List.nil_append, E144_81, E144_84, E144_87, E144_88, if_false]
          by_cases h6 : fr ≤ 0
          · obtain ⟨h', y, e', r'⟩ := fin (nI 0) (Or.inl rfl)
            refine ⟨h', y, ?_, r'⟩
            rw [← e']
            simp (disch := first | omega | exact id rfl | exact jd_i | exact jd_r | exact jd_n | exact jd_f | decide | (simp (disch := omega) only [f1, e2, e4, e5, hclx, hl, h3, h6, Option.isSome_some])) only [f1, e2, e4, e5, hclx, hl, h3, h6, Option.isSome_some, Option.getD_some, Option.toList_some, Option.toList_none, List.cons_append, List.nil_append, E144_43, E144_44, E144_45, E144_46, E144_49, E144_51, E144_53, E144_56, E144_58, E144_61, E144_64, E144_66, E144_67, E144_70, E144_73, E144_80, if_true, if_false]
          · obtain ⟨h', y, e', r'⟩ := fin (nI 1) (Or.inr rfl)
            refine ⟨h', y, ?_, r'⟩
            rw [← e']
            simp (disch := first | omega | exact id rfl | exact jd_i | exact jd_r | exact jd_n | exact jd_f | decide | (simp (disch := omega) only [f1, e2, e4, e5, hclx, hl, h3, h6, Option.isSome_some])) only [f1, e2, e4, e5, hclx, hl, h3, h6, Option.isSome_some, Option.getD_some, Option.toList_some, Option.toList_none, List.cons_append, List.nil_append, E144_43, E144_44, E144_45, E144_46, E144_49, E144_51, E144_53, E144_56, E144_58, E144_61, E144_64, E144_66, E144_67, E144_70, E144_73, E144_76, E144_77, if_true, if_false]
      · have f1 : jv_run (d + 1) 139 [.ref x, .int jj] h = some (some (va_rf none), h) := by
          show jv_run (d + 1) 139 [.ref x, .int jj] h = some (some .null, h)
          rw [N139]
          by_cases c1 : jj < 0
          · simp (disch := first | omega | exact id rfl | exact jd_i | exact jd_r | exact jd_n | exact jd_f | decide | (simp (disch := omega) only [c1, Option.isSome_some])) only [c1, Option.isSome_some, Option.getD_some, Option.toList_some, Option.toList_none, List.cons_append, List.nil_append, E139_0, E139_1, E139_4, E139_5, E139_6, E139_9, E139_12, E139_13, E139_15, E139_18, E139_19, E139_22, E139_23, E139_24, E139_27, E139_28, E139_28n, E139_28r, if_true]
          · obtain ⟨k, hk, rfl⟩ := nI_of c1
            have c2 : nI n ≤ nI k := by
              rw [nI_leI (by omega) hk]
              exact Nat.le_of_not_lt (fun z => q ⟨k, z, rfl⟩)
            simp (disch := first | omega | exact id rfl | exact jd_i | exact jd_r | exact jd_n | exact jd_f | decide | (simp (disch := omega) only [e1, c1, c2, Option.isSome_some])) only [e1, c1, c2, Option.isSome_some, Option.getD_some, Option.toList_some, Option.toList_none, List.cons_append, List.nil_append, E139_0, E139_1, E139_4, E139_5, E139_6, E139_9, E139_12, E139_13, E139_15, E139_18, E139_19, E139_22, E139_23, E139_24, E139_27, E139_28, E139_28n, E139_28r, if_true, if_false]
        obtain ⟨h', y, e', r'⟩ := again h (some (va_rf none)) (jg_G_rf hI) hJ
        refine ⟨h', y, ?_, r'⟩
        rw [← e']
        simp (disch := first | omega | exact id rfl | exact jd_i | exact jd_r | exact jd_n | exact jd_f | decide | (simp (disch := omega) only [f1, hclx, hl, Option.isSome_some])) only [f1, hclx, hl, Option.isSome_some, Option.getD_some, Option.toList_some, Option.toList_none, List.cons_append, List.nil_append, E144_43, E144_44, E144_45, E144_46, E144_49r, E144_51r]
        rw [E144_53r, if_pos rfl]
    by_cases h2 : nI n ≤ s + nI i
    · obtain ⟨h', y, e', r'⟩ := body (s + nI i - nI n)
      refine ⟨h', y, ?_, r'⟩
      rw [← e', E144_11]
      simp (disch := first | omega | exact id rfl | exact jd_i | exact jd_r | exact jd_n | exact jd_f | decide | (simp (disch := omega) only [e1, b1, h2, Option.isSome_some])) only [e1, b1, h2, Option.isSome_some, Option.getD_some, Option.toList_some, Option.toList_none, List.cons_append, List.nil_append, E144_12, E144_13, E144_16, E144_19, E144_20, E144_21, E144_22, E144_23, E144_26, E144_35, E144_36, E144_37, E144_38, E144_39, E144_42, if_true, if_false]
    · obtain ⟨h', y, e', r'⟩ := body (s + nI i)
      refine ⟨h', y, ?_, r'⟩
      rw [← e', E144_11]
      simp (disch := first | omega | exact id rfl | exact jd_i | exact jd_r | exact jd_n | exact jd_f | decide | (simp (disch := omega) only [e1, b1, h2, Option.isSome_some])) only [e1, b1, h2, Option.isSome_some, Option.getD_some, Option.toList_some, Option.toList_none, List.cons_append, List.nil_append, E144_12, E144_13, E144_16, E144_19, E144_20, E144_21, E144_22, E144_23, E144_26, E144_29, E144_30, E144_31, E144_32, if_false]
theorem jg_next (hI : jg_I 0 b0 s0 ρ h x) (hA : jg_A ρ h) : ∃ h' y, jv_run (d + 2) 144 [.ref x] h = some (some (.int y), h') ∧ jg_G 0 b0 s0 ρ h x ρ h' ∧ ∃ n js c, jg_J ρ h' x n n js c ∧ (y = -1 ∨ ∃ j, j < n ∧ y = nI j ∧ jg_E h' (js j)) := by
  have hI' := hI
  obtain ⟨hO, hx, _, _, _, _, _⟩ := hI'
  obtain ⟨w, e1, hw⟩ := jh_get (k := 7) hO hx rfl rfl
  obtain ⟨s, rfl, _⟩ := hw
  obtain ⟨r1, h1, f1, hO1, hF1, hR1⟩ := jc_s156 d _ _ rfl ρ h [.int s, .int (nI 0)] hO ⟨jk_V_top, jk_V_top, True.intro⟩
  cases r1 with
  | none => exact hR1.elim
  | some v =>
    obtain ⟨z, rfl, _⟩ := hR1
    have G1 := jg_G_fr hI hO1 hF1
    have hI1 := G1.1
    obtain ⟨_, _, hf, n, js, c, hJ, r1, r2⟩ := hI1
    obtain ⟨h', y, e', G', J', r'⟩ := jg_next_l (d := d) hx z n 0 (by omega) h1 none none jd_n G1.1 (G1.2.2.2.2 hA) hJ
    refine ⟨h', y, ?_, jg_G_tr G1 G', n, js, c, J', r'⟩
    rw [← e', N144]
    simp (disch := first | omega | exact id rfl | exact jd_i | exact jd_r | exact jd_n | exact jd_f | decide | (simp (disch := omega) only [e1, f1, Option.isSome_some])) only [e1, f1, Option.isSome_some, Option.getD_some, Option.toList_some, Option.toList_none, List.cons_append, List.nil_append, E144_0, E144_1, E144_4, E144_5, E144_8, E144_9, E144_10]
end JG
