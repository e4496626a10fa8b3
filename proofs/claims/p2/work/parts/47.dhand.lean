/-! a job's print, tape and numbers; the drum's rows: by hand -/
section JH
variable {ρ : jk_R} {h : jv_H}
theorem jc_s108 (d : Nat) : jk_Sp jc_RT jc_pr jc_sg (jv_run (d + 1)) 108 := jh_sp2 (q := 4) (t := jk_top) rfl fun ρ h a v hO ha hv => by
  obtain ⟨x, rfl, _⟩ := hv
  obtain ⟨w, e1, hw⟩ := jh_get (k := 10) hO ha rfl rfl
  obtain ⟨y, rfl, _⟩ := hw
  obtain ⟨w, e2, hw⟩ := jh_get (k := 9) hO ha rfl rfl
  obtain ⟨b, rfl, hb⟩ := jh_ref hw
  rw [N108]
  by_cases h1 : y < 0
  · simp (disch := first | omega | exact id rfl | exact jd_i | exact jd_r | exact jd_n | exact jd_f | decide | (simp (disch := omega) only [e1, e2, h1, Option.isSome_some])) only [e1, e2, h1, Option.isSome_some, Option.getD_some, Option.toList_some, Option.toList_none, List.cons_append, List.nil_append, E108_0, E108_1, E108_4, E108_7, E108_8, E108_11, E108_14, E108_17, E108_19, E108_20, E108_21, E108_24, E108_25, E108_28, E108_29, E108_30, E108_31, E108_31i, E108_32, E108_35, E108_36, E108_37, E108_40, E108_41, if_true, if_false]
    exact jh_same hO (jk_V_top (ρ := ρ))
  · by_cases h2 : y < nI 400
    · have h3 : y.toInt < 400 := (jh_ltN (by decide)).mp h2
      have h4 : ¬ y.toInt < 0 := fun q => h1 (jh_lt0.mpr q)
      obtain ⟨h', e3, hO', hF, hg⟩ := jh_st (pr := jc_pr) (x := y) (v := .int x) hO hb (q := 16) (kd := 0) rfl rfl (by decide) (by omega) (by omega) jk_V_top rfl
      have e4 : jv_gf h' a 4 10 = some (.int y) := (hg a 4 10).trans e1
      obtain ⟨h2', e5, hO2, hF2, _⟩ := jh_put (pr := jc_pr) (k := 10) (v := .int (y + nI 1)) hO' ha rfl rfl jk_V_top rfl rfl
      simp (disch := first | omega | exact id rfl | exact jd_i | exact jd_r | exact jd_n | exact jd_f | decide | (simp (disch := omega) only [e1, e2, e3, e4, e5, h1, h2, Option.isSome_some])) only [e1, e2, e3, e4, e5, h1, h2, Option.isSome_some, Option.getD_some, Option.toList_some, Option.toList_none, List.cons_append, List.nil_append, E108_0, E108_1, E108_4, E108_7, E108_8, E108_11, E108_14, E108_17, E108_19, E108_20, E108_21, E108_24, E108_25, E108_28, E108_29, E108_30, E108_31, E108_31i, E108_32, E108_35, E108_36, E108_37, E108_40, E108_41, if_true, if_false]
      exact ⟨_, _, rfl, hO2, jk_Fr_tr hF hF2, jk_V_top (ρ := ρ)⟩
    · simp (disch := first | omega | exact id rfl | exact jd_i | exact jd_r | exact jd_n | exact jd_f | decide | (simp (disch := omega) only [e1, e2, h1, h2, Option.isSome_some])) only [e1, e2, h1, h2, Option.isSome_some, Option.getD_some, Option.toList_some, Option.toList_none, List.cons_append, List.nil_append, E108_0, E108_1, E108_4, E108_7, E108_8, E108_11, E108_14, E108_17, E108_19, E108_20, E108_21, E108_24, E108_25, E108_28, E108_29, E108_30, E108_31, E108_31i, E108_32, E108_35, E108_36, E108_37, E108_40, E108_41, if_true, if_false]
      exact jh_same hO (jk_V_top (ρ := ρ))
theorem jc_s110 (d : Nat) : jk_Sp jc_RT jc_pr jc_sg (jv_run (d + 1)) 110 := jh_sp1 (q := 4) rfl fun ρ h a hO ha => by
  obtain ⟨w, e1, hw⟩ := jh_get (k := 8) hO ha rfl rfl
  obtain ⟨y, rfl, _⟩ := hw
  obtain ⟨w, e2, hw⟩ := jh_get (k := 7) hO ha rfl rfl
  obtain ⟨b, rfl, hb⟩ := jh_ref hw
  obtain ⟨dd, c, g1, g2, g3⟩ := hO b 15 hb
  cases g1
  rcases c with ⟨ci2, fs⟩ | ⟨kd2, n, f⟩
  · exact g3.elim
  · obtain ⟨rfl, hlo, hle, hf⟩ := g3
    have e3 : jv_ln h b = some n := by unfold jv_ln; rw [g2]
    have en : (nI n).toInt = (n : Int) := nI_toInt (by omega)
    rw [N110]
    by_cases h1 : y < 0
    · simp (disch := first | omega | exact id rfl | exact jd_i | exact jd_r | exact jd_n | exact jd_f | decide | (simp (disch := omega) only [e1, e2, e3, h1, Option.isSome_some])) only [e1, e2, e3, h1, Option.isSome_some, Option.getD_some, Option.toList_some, Option.toList_none, List.cons_append, List.nil_append, E110_0, E110_1, E110_4, E110_7, E110_8, E110_11, E110_12, E110_15, E110_16, E110_19, E110_20, E110_23, E110_24, E110_27, E110_28, E110_31, E110_32, if_true, if_false]
      exact jh_same hO (jk_V_top (ρ := ρ))
    · by_cases h2 : nI n ≤ y
      · simp (disch := first | omega | exact id rfl | exact jd_i | exact jd_r | exact jd_n | exact jd_f | decide | (simp (disch := omega) only [e1, e2, e3, h1, h2, Option.isSome_some])) only [e1, e2, e3, h1, h2, Option.isSome_some, Option.getD_some, Option.toList_some, Option.toList_none, List.cons_append, List.nil_append, E110_0, E110_1, E110_4, E110_7, E110_8, E110_11, E110_12, E110_15, E110_16, E110_19, E110_20, E110_23, E110_24, E110_27, E110_28, E110_31, E110_32, if_true, if_false]
        exact jh_same hO (jk_V_top (ρ := ρ))
      · have h3 : y.toInt < (n : Int) := by
          rw [Int32.not_le, Int32.lt_iff_toInt_lt, en] at h2
          exact h2
        have h4 : ¬ y.toInt < 0 := fun q => h1 (jh_lt0.mpr q)
        have hi := jk_idx (n := n) (lo := n) (j := (y.toInt, y.toInt)) (x := y) (by show 0 ≤ y.toInt; omega) h3 ⟨Int.le_refl _, Int.le_refl _⟩ (Nat.le_refl n)
        have e4 : jv_al h b .int y = some (f y.toNatClampNeg) := by
          unfold jv_al
          rw [g2]
          exact if_pos ⟨rfl, hi⟩
        obtain ⟨z, e5, _⟩ := hf y.toNatClampNeg
        rw [e5] at e4
        simp (disch := first | omega | exact id rfl | exact jd_i | exact jd_r | exact jd_n | exact jd_f | decide | (simp (disch := omega) only [e1, e2, e3, e4, h1, h2, Option.isSome_some])) only [e1, e2, e3, e4, h1, h2, Option.isSome_some, Option.getD_some, Option.toList_some, Option.toList_none, List.cons_append, List.nil_append, E110_0, E110_1, E110_4, E110_7, E110_8, E110_11, E110_12, E110_15, E110_16, E110_19, E110_20, E110_23, E110_24, E110_27, E110_28, E110_31, E110_32, if_true, if_false]
        exact jh_same hO (jk_V_top (ρ := ρ))
theorem jh_cmp0 {x : Int64} (hx : ¬ lg_cmp x 0 = 0) : ¬ x = 0 := fun e => hx (by rw [e]; decide)
theorem jc_s113 (d : Nat) : jk_Sp jc_RT jc_pr jc_sg (jv_run (d + 1)) 113 := jh_sp3 (q := 4) (t := jk_lg) (u := .inl (0, 1)) rfl fun ρ h a v w hO ha hv hw' => by
  obtain ⟨x, rfl⟩ := hv
  obtain ⟨y, rfl, _⟩ := hw'
  obtain ⟨w, e1, hw⟩ := jh_get (k := 2) hO ha rfl rfl
  obtain ⟨z, rfl⟩ := hw
  have hp : ∀ v : Int64, ∃ h', jv_pf h a 4 2 (.long v) = some h' ∧ jk_Ok jc_RT ρ h' ∧ jk_Fr jc_pr ρ h h' := fun v => by
    obtain ⟨h', e, hO', hF, _⟩ := jh_put (pr := jc_pr) (k := 2) (v := .long v) hO ha rfl rfl ⟨v, rfl⟩ rfl rfl
    exact ⟨h', e, hO', hF⟩
  rw [N113]
  by_cases h1 : lg_cmp x 0 = 0
  · simp (disch := first | omega | exact id rfl | exact jd_i | exact jd_r | exact jd_n | exact jd_f | decide | (simp (disch := omega) only [e1, h1, Option.isSome_some])) only [e1, h1, Option.isSome_some, Option.getD_some, Option.toList_some, Option.toList_none, List.cons_append, List.nil_append, E113_0, E113_3, E113_5, E113_6, E113_7, E113_8, E113_11, E113_12, E113_14, E113_15, E113_18, E113_19, E113_22, E113_24, E113_25, E113_28, E113_30, E113_31, E113_32, E113_33, E113_36, E113_37, E113_40, E113_41, E113_42, E113_45, E113_46, E113_49, E113_50, E113_51, E113_54, E113_55, if_true, if_false]
    exact jh_same hO (jk_V_top (ρ := ρ))
  · have hx := jh_cmp0 h1
    by_cases h2 : lg_cmp x (-140737488355328) = 0
    · simp (disch := first | omega | exact id rfl | exact jd_i | exact jd_r | exact jd_n | exact jd_f | decide | (simp (disch := omega) only [e1, h1, h2, Option.isSome_some])) only [e1, h1, h2, Option.isSome_some, Option.getD_some, Option.toList_some, Option.toList_none, List.cons_append, List.nil_append, E113_0, E113_3, E113_5, E113_6, E113_7, E113_8, E113_11, E113_12, E113_14, E113_15, E113_18, E113_19, E113_22, E113_24, E113_25, E113_28, E113_30, E113_31, E113_32, E113_33, E113_36, E113_37, E113_40, E113_41, E113_42, E113_45, E113_46, E113_49, E113_50, E113_51, E113_54, E113_55, if_true, if_false]
      exact jh_same hO (jk_V_top (ρ := ρ))
    · by_cases h3 : lg_cmp z (-140737488355328) = 0
      · simp (disch := first | omega | exact id rfl | exact jd_i | exact jd_r | exact jd_n | exact jd_f | decide | (simp (disch := omega) only [e1, h1, h2, h3, Option.isSome_some])) only [e1, h1, h2, h3, Option.isSome_some, Option.getD_some, Option.toList_some, Option.toList_none, List.cons_append, List.nil_append, E113_0, E113_3, E113_5, E113_6, E113_7, E113_8, E113_11, E113_12, E113_14, E113_15, E113_18, E113_19, E113_22, E113_24, E113_25, E113_28, E113_30, E113_31, E113_32, E113_33, E113_36, E113_37, E113_40, E113_41, E113_42, E113_45, E113_46, E113_49, E113_50, E113_51, E113_54, E113_55, if_true, if_false]
        exact jh_same hO (jk_V_top (ρ := ρ))
      · by_cases h4 : y = 0
        · obtain ⟨h', e2, hO', hF⟩ := hp (z / x)
          simp (disch := first | omega | exact id rfl | exact jd_i | exact jd_r | exact jd_n | exact jd_f | decide | (simp (disch := omega) only [e1, e2, h1, h2, h3, h4, hx, Option.isSome_some])) only [e1, e2, h1, h2, h3, h4, hx, Option.isSome_some, Option.getD_some, Option.toList_some, Option.toList_none, List.cons_append, List.nil_append, E113_0, E113_3, E113_5, E113_6, E113_7, E113_8, E113_11, E113_12, E113_14, E113_15, E113_18, E113_19, E113_22, E113_24, E113_25, E113_28, E113_30, E113_31, E113_32, E113_33, E113_36, E113_37, E113_40, E113_41, E113_42, E113_45, E113_46, E113_49, E113_50, E113_51, E113_54, E113_55, if_true, if_false, not_false_eq_true]
          exact ⟨_, _, rfl, hO', hF, jk_V_top (ρ := ρ)⟩
        · obtain ⟨h', e2, hO', hF⟩ := hp (z - z / x * x)
          simp (disch := first | omega | exact id rfl | exact jd_i | exact jd_r | exact jd_n | exact jd_f | decide | (simp (disch := omega) only [e1, e2, h1, h2, h3, h4, hx, Option.isSome_some])) only [e1, e2, h1, h2, h3, h4, hx, Option.isSome_some, Option.getD_some, Option.toList_some, Option.toList_none, List.cons_append, List.nil_append, E113_0, E113_3, E113_5, E113_6, E113_7, E113_8, E113_11, E113_12, E113_14, E113_15, E113_18, E113_19, E113_22, E113_24, E113_25, E113_28, E113_30, E113_31, E113_32, E113_33, E113_36, E113_37, E113_40, E113_41, E113_42, E113_45, E113_46, E113_49, E113_50, E113_51, E113_54, E113_55, if_true, if_false, not_false_eq_true]
          exact ⟨_, _, rfl, hO', hF, jk_V_top (ρ := ρ)⟩
/-! the root's loop: its bit is halved 24 times -/
def jh_b (t : Nat) : Int64 := if t = 0 then 0 else Int64.ofNat (2 ^ (t - 1))
theorem jh_b1 : ∀ t, t < 24 → (jh_b (t + 1)) >>> ((nI 1).toInt64 &&& 63) = jh_b t ∧ ¬ lg_cmp (jh_b (t + 1)) 0 ≤ 0 := by decide +kernel
theorem jh_root {call : jv_F} {a : Nat} {z : Int64} (e1 : jv_gf h a 4 2 = some (.long z)) : ∀ t, t ≤ 24 → ∀ (r : Int64) (l5 l6 : Option Value), ¬ jv_is2 (some l5) = true ∨ l6 = none → ∃ (r' : Int64) (l5' l6' : Option Value), jv_ev call 114 18 [some (.ref a), some (.long r), none, some (.long (jh_b t)), none, l5, l6] [] h = jv_ev call 114 52 [some (.ref a), some (.long r'), none, some (.long 0), none, l5', l6'] [] h
  | 0, _, r, l5, l6, _ => by
    refine ⟨r, l5, l6, ?_⟩
    have hc : lg_cmp (jh_b 0) 0 ≤ 0 := by decide
    have hb : jh_b 0 = 0 := rfl
    rw [E114_18]
    simp (disch := first | omega | exact id rfl | exact jd_i | exact jd_r | exact jd_n | exact jd_f | decide | (simp (disch := omega) only [hb, Option.isSome_some])) only [hb, Option.isSome_some, Option.getD_some, Option.toList_some, Option.toList_none, List.cons_append, List.nil_append, E114_19, E114_20, E114_21, if_pos (show lg_cmp 0 0 ≤ 0 by decide)]
  | t + 1, ht, r, l5, l6, hl => by
    obtain ⟨hb1, hb2⟩ := jh_b1 t (by omega)
    rw [E114_18]
    by_cases h2 : (0 : Int32) < lg_cmp ((r + jh_b (t + 1)) * (r + jh_b (t + 1))) z
    · obtain ⟨r', l5', l6', ih⟩ := jh_root e1 t (by omega) r (some (.long (r + jh_b (t + 1)))) none (Or.inr rfl)
      refine ⟨r', l5', l6', ?_⟩
      rw [← ih]
      simp (disch := first | omega | exact id rfl | exact jd_i | exact jd_r | exact jd_n | exact jd_f | decide | (simp (disch := omega) only [e1, hb1, hb2, h2, Option.isSome_some])) only [e1, hb1, hb2, h2, Option.isSome_some, Option.getD_some, Option.toList_some, Option.toList_none, List.cons_append, List.nil_append, E114_0, E114_1, E114_4, E114_5, E114_6, E114_9, E114_11, E114_12, E114_13, E114_14, E114_17, E114_19, E114_20, E114_21, E114_24, E114_25, E114_26, E114_27, E114_29, E114_31, E114_33, E114_34, E114_35, E114_38, E114_39, E114_42, E114_44, E114_45, E114_46, E114_47, E114_48, E114_49, E114_53, E114_54, E114_57, E114_58, if_true, if_false]
    · obtain ⟨r', l5', l6', ih⟩ := jh_root e1 t (by omega) (r + jh_b (t + 1)) (some (.long (r + jh_b (t + 1)))) none (Or.inr rfl)
      refine ⟨r', l5', l6', ?_⟩
      rw [← ih]
      simp (disch := first | omega | exact id rfl | exact jd_i | exact jd_r | exact jd_n | exact jd_f | decide | (simp (disch := omega) only [e1, hb1, hb2, h2, Option.isSome_some])) only [e1, hb1, hb2, h2, Option.isSome_some, Option.getD_some, Option.toList_some, Option.toList_none, List.cons_append, List.nil_append, E114_0, E114_1, E114_4, E114_5, E114_6, E114_9, E114_11, E114_12, E114_13, E114_14, E114_17, E114_19, E114_20, E114_21, E114_24, E114_25, E114_26, E114_27, E114_29, E114_31, E114_33, E114_34, E114_35, E114_38, E114_39, E114_42, E114_44, E114_45, E114_46, E114_47, E114_48, E114_49, E114_53, E114_54, E114_57, E114_58, if_true, if_false]
theorem jc_s114 (d : Nat) : jk_Sp jc_RT jc_pr jc_sg (jv_run (d + 1)) 114 := jh_sp1 (q := 4) rfl fun ρ h a hO ha => by
  obtain ⟨w, e1, hw⟩ := jh_get (k := 2) hO ha rfl rfl
  obtain ⟨z, rfl⟩ := hw
  rw [N114]
  by_cases h1 : (0 : Int32) ≤ lg_cmp z 0
  · obtain ⟨r', l5', l6', ih⟩ := jh_root (call := jv_run d) e1 24 (Nat.le_refl _) 0 none none (Or.inr rfl)
    obtain ⟨h', e2, hO', hF, _⟩ := jh_put (pr := jc_pr) (k := 2) (v := .long r') hO ha rfl rfl ⟨r', rfl⟩ rfl rfl
    have hb : jh_b 24 = Int64.ofInt 8388608 := by decide +kernel
    have e3 : jv_ev (jv_run d) 114 0 [some (.ref a), none, none, none, none, none, none] [] h = jv_ev (jv_run d) 114 18 [some (.ref a), some (.long 0), none, some (.long (jh_b 24)), none, none, none] [] h := by
      simp (disch := first | omega | exact id rfl | exact jd_i | exact jd_r | exact jd_n | exact jd_f | decide | (simp (disch := omega) only [e1, h1, Option.isSome_some])) only [e1, h1, Option.isSome_some, Option.getD_some, Option.toList_some, Option.toList_none, List.cons_append, List.nil_append, E114_0, E114_1, E114_4, E114_5, E114_6, E114_12, E114_13, E114_14, E114_17, if_true]
      rfl
    rw [e3, ih]
    simp (disch := first | omega | exact id rfl | exact jd_i | exact jd_r | exact jd_n | exact jd_f | decide | (simp (disch := omega) only [e2, Option.isSome_some])) only [e2, Option.isSome_some, Option.getD_some, Option.toList_some, Option.toList_none, List.cons_append, List.nil_append, E114_52, E114_53, E114_54, E114_57, E114_58]
    exact ⟨_, _, rfl, hO', hF, jk_V_top (ρ := ρ)⟩
  · simp (disch := first | omega | exact id rfl | exact jd_i | exact jd_r | exact jd_n | exact jd_f | decide | (simp (disch := omega) only [e1, h1, Option.isSome_some])) only [e1, h1, Option.isSome_some, Option.getD_some, Option.toList_some, Option.toList_none, List.cons_append, List.nil_append, E114_0, E114_1, E114_4, E114_5, E114_6, E114_9, E114_11, if_false]
    exact jh_same hO (jk_V_top (ρ := ρ))
end JH
