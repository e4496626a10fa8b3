/-! a job ends -/
section JG
variable {ρ : jk_R} {h h' : jv_H} {d b0 s0 x : Nat}
/-- a job's end is written: it has ended then -/
theorem jg_I_end {a : Nat} {y : Int32} (hI : jg_I 0 b0 s0 ρ h x) (ha : ρ a = some 4) (hO' : jk_Ok jc_RT ρ h') (hz : h'.2 = h.2) (hg : ∀ b c m, ¬ (b = a ∧ c = 4 ∧ m = 12) → jv_gf h' b c m = jv_gf h b c m) (hat : jv_gf h' a 4 12 = some (.int y)) (hy : ¬ y = 0) (hal : ∀ b ty j, jv_al h' b ty j = jv_al h b ty j) : jg_I 0 b0 s0 ρ h' x ∧ ¬ jg_E h' a := by
  obtain ⟨hO, hx, hf, n, js, c, hJ, r1, r2⟩ := hI
  obtain ⟨h1, h2, h3, h4, h5, h6, h7⟩ := hJ
  have hB : ∀ b m, jg_B h' b m = jg_B h b m := fun b m => by
    unfold jg_B
    rw [hg b 4 6 (by simp)]
    split
    · exact hal _ _ _
    · rfl
  have hne : ¬ jg_E h' a := fun e => by
    unfold jg_E at e
    rw [hat] at e
    simp only [Option.some.injEq, Value.int.injEq] at e
    exact hy e
  refine ⟨⟨hO', hx, by rw [hz]; exact hf, n, js, c, ⟨h1, by rw [hg x 6 4 (by simp)]; exact h2, fun i hi => ?_, h4, h5, fun b b' p pb pb' e e' => h6 b b' p pb pb' (by rw [← hg b 4 6 (by simp)]; exact e) (by rw [← hg b' 4 6 (by simp)]; exact e'), fun b m b' pb hm e => ?_⟩, by rw [hz]; exact r1, by rw [hz]; exact r2⟩, hne⟩
  · obtain ⟨a1, a2, a3, a4⟩ := h3 i hi
    refine ⟨a1, ?_, a3, fun e => ?_⟩
    · intro hm
      have a2 := a2 hm
      unfold jg_R
      rw [hg x 6 3 (by simp)]
      unfold jg_R at a2
      split at a2
      · rw [hal]
        exact a2
      · cases a2
    · have : jg_nn h' (js i) = jg_nn h (js i) := by
        unfold jg_nn
        congr 1
        funext m
        rw [hB]
      rw [this]
      by_cases q : js i = a
      · rw [q] at e
        exact absurd e hne
      · refine a4 ?_
        unfold jg_E at e ⊢
        rw [← hg (js i) 4 12 (fun z => q z.1)]
        exact e
  · rw [hB] at e
    rw [hg b' 1 0 (by simp)]
    exact h7 b m b' pb hm e
theorem jg_end_l {a : Nat} (ha : ρ a = some 4) (hx : ρ x = some 0) : ∀ (t k : Nat), k + t = 64 → ∀ (h : jv_H) (y : Int32) (l4 : Option Value), jg_I 0 b0 s0 ρ h x → ¬ jg_E h a → ∃ h', jv_ev (jv_run (d + 2)) 151 17 [some (.ref x), some (.ref a), some (.int y), some (.int (nI k)), l4] [] h = some (none, h') ∧ jg_W 0 b0 s0 ρ h x ρ h' ∧ jg_A ρ h'
  | 0, k, hk, h, y, l4, hI, hE => by
    have e : k = 64 := by omega
    subst e
    have hclx := jh_cl hI.1 hx (q := 0) rfl
    obtain ⟨h', f1, W1, A1⟩ := jg_activate (d := d) hI
    refine ⟨h', ?_, W1, A1⟩
    have b1 : nI 64 ≤ nI 64 := by decide
    simp (disch := first | omega | exact id rfl | exact jd_i | exact jd_r | exact jd_n | exact jd_f | decide | (simp (disch := omega) only [f1, b1, hclx, Option.isSome_some])) only [f1, b1, hclx, Option.isSome_some, Option.getD_some, Option.toList_some, Option.toList_none, List.cons_append, List.nil_append, E151_17, E151_18, E151_20, E151_69, E151_70, E151_73, if_true]
  | t + 1, k, hk, h, y, l4, hI, hE => by
    have hO := hI.1
    have hclx := jh_cl hO hx (q := 0) rfl
    have b1 : ¬ nI 64 ≤ nI k := by rw [nI_leI (by decide) (by omega)]; omega
    obtain ⟨p, e1, hp⟩ := jg_ref (k := 6) hO ha rfl rfl
    have hkn := jh_kn hO hp (q := 14) (kd := 3) rfl rfl (by decide)
    have t0 : (nI k).toInt = ((k : Nat) : Int) := nI_toInt (by omega)
    obtain ⟨u, e2, hu⟩ := jh_ld (x := nI k) hO hp (q := 14) (kd := 3) rfl rfl (by rw [t0]; omega) (by rw [t0]; omega)
    obtain ⟨rb, rfl, hrb⟩ := jh_rfn hu
    have next : ∀ (h2 : jv_H) (l4 : Option Value), jg_W 0 b0 s0 ρ h x ρ h2 → ∃ h', jv_ev (jv_run (d + 2)) 151 63 [some (.ref x), some (.ref a), some (.int y), some (.int (nI k)), l4] [] h2 = some (none, h') ∧ jg_W 0 b0 s0 ρ h x ρ h' ∧ jg_A ρ h' := fun h2 l4 W2 => by
      have hE2 : ¬ jg_E h2 a := fun q => hE ((W2.2.2.2 a ha).mp q)
      obtain ⟨h', e', W', A'⟩ := jg_end_l ha hx t (k + 1) (by omega) h2 y l4 W2.1 hE2
      refine ⟨h', ?_, jg_W_tr W2 W', A'⟩
      rw [← e']
      simp (disch := first | omega | exact id rfl | exact jd_i | exact jd_r | exact jd_n | exact jd_f | decide | (simp (disch := omega) only [nI_add, Option.isSome_some])) only [nI_add, Option.isSome_some, Option.getD_some, Option.toList_some, Option.toList_none, List.cons_append, List.nil_append, E151_63, E151_66]
    cases rb with
    | none =>
      obtain ⟨h', e', r'⟩ := next h (some (va_rf none)) (jg_W_rf hI)
      refine ⟨h', ?_, r'⟩
      rw [← e', E151_17]
      simp (disch := first | omega | exact id rfl | exact jd_i | exact jd_r | exact jd_n | exact jd_f | decide | (simp (disch := omega) only [e1, e2, hkn, b1, Option.isSome_some])) only [e1, e2, hkn, b1, Option.isSome_some, Option.getD_some, Option.toList_some, Option.toList_none, List.cons_append, List.nil_append, E151_18, E151_20, E151_23, E151_24, E151_27, E151_28, E151_29r, E151_31r, if_false]
      rw [E151_33r, if_pos rfl]
    | some b =>
      have hb := hrb b rfl
      obtain ⟨dr, e3, hdr⟩ := jg_ref (k := 2) hO hx rfl rfl
      obtain ⟨w, e4, hw⟩ := jh_get (k := 3) hO hdr rfl rfl
      obtain ⟨uw, rfl, huw⟩ := jh_rfn hw
      have hBk : jg_B h a k = some (.ref b) := by
        unfold jg_B
        rw [e1]
        exact e2
      by_cases h3 : some b = uw
      · obtain ⟨h', e', r'⟩ := next h (some (va_rf (some b))) (jg_W_rf hI)
        refine ⟨h', ?_, r'⟩
        rw [← e', E151_17]
        simp (disch := first | omega | exact id rfl | exact jd_i | exact jd_r | exact jd_n | exact jd_f | decide | (simp (disch := omega) only [e1, e2, hkn, b1, Option.isSome_some])) only [e1, e2, hkn, b1, Option.isSome_some, Option.getD_some, Option.toList_some, Option.toList_none, List.cons_append, List.nil_append, E151_18, E151_20, E151_23, E151_24, E151_27, E151_28, E151_29r, E151_31r, if_false]
        rw [E151_33r, if_neg (by simp)]
        simp (disch := first | omega | exact id rfl | exact jd_i | exact jd_r | exact jd_n | exact jd_f | decide | (simp (disch := omega) only [e3, e4, Option.isSome_some])) only [e3, e4, Option.isSome_some, Option.getD_some, Option.toList_some, Option.toList_none, List.cons_append, List.nil_append, E151_36r, E151_38, E151_39, E151_42]
        rw [E151_45, if_pos h3]
      · have hcl1 := jh_cl hO hdr (q := 3) rfl
        obtain ⟨r1, h1, f1, hO1, hF1, hR1⟩ := jc_s82 d _ _ rfl ρ h [.ref dr, .ref b] hO ⟨Or.inr ⟨dr, rfl, hdr⟩, Or.inr ⟨b, rfl, hb⟩, True.intro⟩
        cases r1 with
        | some v => exact hR1.elim
        | none =>
          have G1 := jg_G_fr hI hO1 hF1
          have hown : jv_gf h1 b 1 0 = some (.ref a) := by
            rw [jg_kf (k := 0) hO hF1 hb rfl]
            obtain ⟨_, _, _, n, js, c, hJ, _⟩ := hI
            exact hJ.2.2.2.2.2.2 a k b ha (by omega) hBk
          obtain ⟨h2, f2, G2⟩ := jg_forget (d := d) G1.1 hb hown (fun q => hE ((G1.2.2.2.1 a ha).mp q))
          obtain ⟨h', e', r'⟩ := next h2 (some (va_rf (some b))) (jg_W_tr (jg_W_G G1) (jg_W_G G2))
          refine ⟨h', ?_, r'⟩
          have f1' : jv_run (d + 2) 82 [.ref dr, va_rf (some b)] h = some (none, h1) := f1
          have f2' : jv_run (d + 2) 152 [.ref x, va_rf (some b)] h1 = some (none, h2) := f2
          have hclx1 := jh_cl hO1 hx (q := 0) rfl
          rw [← e', E151_17]
          simp (disch := first | omega | exact id rfl | exact jd_i | exact jd_r | exact jd_n | exact jd_f | decide | (simp (disch := omega) only [e1, e2, hkn, b1, Option.isSome_some])) only [e1, e2, hkn, b1, Option.isSome_some, Option.getD_some, Option.toList_some, Option.toList_none, List.cons_append, List.nil_append, E151_18, E151_20, E151_23, E151_24, E151_27, E151_28, E151_29r, E151_31r, if_false]
          rw [E151_33r, if_neg (by simp)]
          simp (disch := first | omega | exact id rfl | exact jd_i | exact jd_r | exact jd_n | exact jd_f | decide | (simp (disch := omega) only [e3, e4, Option.isSome_some])) only [e3, e4, Option.isSome_some, Option.getD_some, Option.toList_some, Option.toList_none, List.cons_append, List.nil_append, E151_36r, E151_38, E151_39, E151_42]
          rw [E151_45, if_neg h3]
          simp (disch := first | omega | exact id rfl | exact jd_i | exact jd_r | exact jd_n | exact jd_f | decide | (simp (disch := omega) only [e3, f1', f2', hcl1, hclx1, Option.isSome_some])) only [e3, f1', f2', hcl1, hclx1, Option.isSome_some, Option.getD_some, Option.toList_some, Option.toList_none, List.cons_append, List.nil_append, E151_48, E151_49, E151_52r, E151_54, E151_57, E151_58r, E151_60]
/-- what a method of the machine gives: all of it stays -/
def jg_Y (e0 b0 s0 : Nat) (ρ : jk_R) (h : jv_H) (x : Nat) (ρ' : jk_R) (h' : jv_H) : Prop := jg_I e0 b0 s0 ρ' h' x ∧ jg_A ρ' h' ∧ jg_X ρ h ρ' h' ∧ (∀ a, ρ' a = some 4 → ρ a = some 4)
theorem jg_Y_tr {ρ1 ρ2 ρ3 : jk_R} {h1 h2 h3 : jv_H} (a : jg_Y 0 b0 s0 ρ1 h1 x ρ2 h2) (b : jg_Y 0 b0 s0 ρ2 h2 x ρ3 h3) : jg_Y 0 b0 s0 ρ1 h1 x ρ3 h3 := ⟨b.1, b.2.1, jg_X_tr a.2.2.1 b.2.2.1, fun q hq => a.2.2.2 q (b.2.2.2 q hq)⟩
theorem jg_Y_G {ρ' : jk_R} (a : jg_G 0 b0 s0 ρ h x ρ' h') (hA : jg_A ρ h) : jg_Y 0 b0 s0 ρ h x ρ' h' := ⟨a.1, a.2.2.2.2 hA, a.2.1, a.2.2.1⟩
theorem jg_Y_rf (hI : jg_I 0 b0 s0 ρ h x) (hA : jg_A ρ h) : jg_Y 0 b0 s0 ρ h x ρ h := jg_Y_G (jg_G_rf hI) hA
theorem jg_endJob {a : Nat} {y : Int32} (hI : jg_I 0 b0 s0 ρ h x) (ha : ρ a = some 4) (hy : ¬ y = 0) : ∃ h', jv_run (d + 3) 151 [.ref x, .ref a, .int y] h = some (none, h') ∧ jg_Y 0 b0 s0 ρ h x ρ h' := by
  have hO := hI.1
  have hx := hI.2.1
  obtain ⟨h1, f1, hO1, hz1, hn1, hat1, hg1, ha1⟩ := jg_put (k := 12) (v := .int y) hO ha rfl rfl jk_V_top rfl
  obtain ⟨hI1, hE1⟩ := jg_I_end hI ha hO1 hz1 hg1 hat1 hy ha1
  obtain ⟨w, e2, hw⟩ := jh_get (k := 5) hO1 hx rfl rfl
  obtain ⟨z, rfl, _⟩ := hw
  obtain ⟨h2, f2, hO2, hz2, hn2, _, hg2, ha2⟩ := jg_put (k := 5) (v := .int (z - nI 1)) hO1 hx rfl rfl jk_V_top rfl
  have W2 := jg_W_put hI1 hO2 hz2 hn2 hg2 ha2 (by simp [jg_key])
  obtain ⟨h', e', W', A'⟩ := jg_end_l (d := d) ha hx 64 0 rfl h2 y none W2.1 (fun q => hE1 ((W2.2.2.2 a ha).mp q))
  refine ⟨h', ?_, W'.1, A', jg_X_tr (jg_X_tr ⟨fun _ _ e => e, fun b _ e => ⟨e, hn1 b e⟩, by rw [hz1]; exact Nat.le_refl _⟩ W2.2.1) W'.2.1, fun _ e => e⟩
  rw [← e', show jv_run (d + 3) 151 [.ref x, .ref a, .int y] h = jv_ev (jv_run (d + 2)) 151 0 [some (.ref x), some (.ref a), some (.int y), none, none] [] h from N151 (a0 := some a)]
  simp (disch := first | omega | exact id rfl | exact jd_i | exact jd_r | exact jd_n | exact jd_f | decide | (simp (disch := omega) only [e2, f1, f2, Option.isSome_some])) only [e2, f1, f2, Option.isSome_some, Option.getD_some, Option.toList_some, Option.toList_none, List.cons_append, List.nil_append, E151_0, E151_1, E151_2, E151_5, E151_6, E151_7, E151_10, E151_11, E151_12, E151_15, E151_16]
theorem jg_settle {a : Nat} {y : Int32} (hI : jg_I 0 b0 s0 ρ h x) (hA : jg_A ρ h) (ha : ρ a = some 4) : ∃ h', jv_run (d + 4) 145 [.ref x, .ref a, .int y] h = some (none, h') ∧ jg_Y 0 b0 s0 ρ h x ρ h' := by
  have hx := hI.2.1
  rw [show jv_run (d + 4) 145 [.ref x, .ref a, .int y] h = jv_ev (jv_run (d + 3)) 145 0 [some (.ref x), some (.ref a), some (.int y)] [] h from N145 (a0 := some a)]
  by_cases h1 : y = -1
  · subst h1
    have hO := hI.1
    obtain ⟨w, e2, hw⟩ := jh_get (k := 9) hO hx rfl rfl
    obtain ⟨z, rfl, _⟩ := hw
    obtain ⟨h2, f2, hO2, hz2, hn2, _, hg2, ha2⟩ := jg_put (k := 9) (v := .int (z + nI 1)) hO hx rfl rfl jk_V_top rfl
    refine ⟨h2, ?_, jg_Y_G (jg_G_put hI hO2 hz2 hn2 hg2 ha2 (by simp [jg_key]) (by simp)) hA⟩
    simp (disch := first | omega | exact id rfl | exact jd_i | exact jd_r | exact jd_n | exact jd_f | decide | (simp (disch := omega) only [e2, f2, Option.isSome_some])) only [e2, f2, Option.isSome_some, Option.getD_some, Option.toList_some, Option.toList_none, List.cons_append, List.nil_append, E145_0, E145_1, E145_2, E145_5, E145_6, E145_7, E145_10, E145_11, E145_12, E145_15, not_true_eq_false, if_false]
  · /- behind the end, if there was one -/
    have tail : ∀ h1, jg_Y 0 b0 s0 ρ h x ρ h1 → ∃ h', jv_ev (jv_run (d + 3)) 145 26 [some (.ref x), some (.ref a), some (.int y)] [] h1 = some (none, h') ∧ jg_Y 0 b0 s0 ρ h x ρ h' := fun h1 Y1 => by
      have hO1 := Y1.1.1
      obtain ⟨r2, h2, f2, hO2, hF2, hR2⟩ := jc_s146 (d + 2) _ _ rfl ρ h1 [.int y] hO1 ⟨jk_V_top, True.intro⟩
      cases r2 with
      | none => exact hR2.elim
      | some v =>
        obtain ⟨z, rfl, _⟩ := hR2
        have Y2 := jg_Y_tr Y1 (jg_Y_G (jg_G_fr Y1.1 hO2 hF2) Y1.2.1)
        by_cases h3 : z = 0
        · refine ⟨h2, ?_, Y2⟩
          subst h3
          simp (disch := first | omega | exact id rfl | exact jd_i | exact jd_r | exact jd_n | exact jd_f | decide | (simp (disch := omega) only [f2, Option.isSome_some])) only [f2, Option.isSome_some, Option.getD_some, Option.toList_some, Option.toList_none, List.cons_append, List.nil_append, E145_26, E145_27, E145_30, E145_60, if_true]
        · obtain ⟨w, e3, hw⟩ := jh_get (k := 11) hO2 hx rfl rfl
          obtain ⟨o, rfl, _⟩ := hw
          obtain ⟨h4, f4, hO4, hz4, hn4, hat4, hg4, ha4⟩ := jg_put (k := 11) (v := .int (o + nI 1)) hO2 hx rfl rfl jk_V_top rfl
          have Y4 := jg_Y_tr Y2 (jg_Y_G (jg_G_put Y2.1 hO4 hz4 hn4 hg4 ha4 (by simp [jg_key]) (by simp)) Y2.2.1)
          have h16 : ¬ nI 16 = 0 := by decide
          by_cases h5 : (o + nI 1) - (o + nI 1) / nI 16 * nI 16 = 0
          · obtain ⟨co, e5, hco⟩ := jg_ref (k := 1) hO4 hx rfl rfl
            have hcl := jh_cl hO4 hco (q := 2) rfl
            obtain ⟨r6, h6, f6, hO6, hF6, hR6⟩ := jc_s75 (d + 1) _ _ rfl ρ h4 [.ref co] hO4 ⟨Or.inr ⟨co, rfl, hco⟩, True.intro⟩
            cases r6 with
            | some v => exact hR6.elim
            | none =>
              refine ⟨h6, ?_, jg_Y_tr Y4 (jg_Y_G (jg_G_fr Y4.1 hO6 hF6) Y4.2.1)⟩
              simp (disch := first | omega | exact id rfl | exact jd_i | exact jd_r | exact jd_n | exact jd_f | decide | (simp (disch := omega) only [f2, e3, f4, hat4, h3, h5, h16, e5, f6, hcl, Option.isSome_some])) only [f2, e3, f4, hat4, h3, h5, h16, e5, f6, hcl, Option.isSome_some, Option.getD_some, Option.toList_some, Option.toList_none, List.cons_append, List.nil_append, E145_26, E145_27, E145_30, E145_33, E145_34, E145_35, E145_38, E145_39, E145_40, E145_43, E145_44, E145_47, E145_49, E145_50, E145_53, E145_54, E145_57, E145_60, if_false, not_true_eq_false]
          · refine ⟨h4, ?_, Y4⟩
            simp (disch := first | omega | exact id rfl | exact jd_i | exact jd_r | exact jd_n | exact jd_f | decide | (simp (disch := omega) only [f2, e3, f4, hat4, h3, h5, h16, Option.isSome_some])) only [f2, e3, f4, hat4, h3, h5, h16, Option.isSome_some, Option.getD_some, Option.toList_some, Option.toList_none, List.cons_append, List.nil_append, E145_26, E145_27, E145_30, E145_33, E145_34, E145_35, E145_38, E145_39, E145_40, E145_43, E145_44, E145_47, E145_49, E145_50, E145_60, if_false, if_true, not_false_eq_true]
    by_cases h2 : y = 0
    · obtain ⟨h', e', Y'⟩ := tail h (jg_Y_rf hI hA)
      refine ⟨h', ?_, Y'⟩
      rw [← e']
      have h1' : ¬ (0 : Int32) = -1 := by decide
      subst h2
      simp (disch := first | omega | exact id rfl | exact jd_i | exact jd_r | exact jd_n | exact jd_f | decide | (simp (disch := omega) only [h1', Option.isSome_some])) only [h1', Option.isSome_some, Option.getD_some, Option.toList_some, Option.toList_none, List.cons_append, List.nil_append, E145_0, E145_1, E145_2, E145_16, E145_17, if_true, not_false_eq_true]
    · obtain ⟨h1', f1, Y1⟩ := jg_endJob (d := d) hI ha h2
      obtain ⟨h', e', Y'⟩ := tail h1' Y1
      refine ⟨h', ?_, Y'⟩
      have hclx := jh_cl hI.1 hx (q := 0) rfl
      rw [← e']
      simp (disch := first | omega | exact id rfl | exact jd_i | exact jd_r | exact jd_n | exact jd_f | decide | (simp (disch := omega) only [h1, h2, f1, hclx, Option.isSome_some])) only [h1, h2, f1, hclx, Option.isSome_some, Option.getD_some, Option.toList_some, Option.toList_none, List.cons_append, List.nil_append, E145_0, E145_1, E145_2, E145_16, E145_17, E145_20, E145_21, E145_22, E145_23, if_true, if_false, not_false_eq_true]
end JG
