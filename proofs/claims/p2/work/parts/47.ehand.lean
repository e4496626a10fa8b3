/-! the drum's rows, and a number's print: by hand -/
section JH
variable {ρ : jk_R} {h : jv_H}
theorem jh_isA {r : Option Nat} (hO : jk_Ok jc_RT ρ h) (hr : ∀ b, r = some b → ρ b = some 5) : jv_isA h RX0 (va_rf r) = true := jk_isA_ok (RT := jc_RT) (t := .inr (.inr (5, false))) (by decide) (jh_rfV hr) hO
theorem jc_s81 (d : Nat) : jk_Sp jc_RT jc_pr jc_sg (jv_run (d + 1)) 81 := jh_sp2 (q := 3) (t := .inr (.inr (5, true))) rfl fun ρ h a v hO ha hv => by
  obtain ⟨c, rfl, hc⟩ := jh_ref hv
  obtain ⟨w, e1, hw⟩ := jh_get (k := 2) hO ha rfl rfl
  obtain ⟨y, rfl, y0, y1⟩ := hw
  obtain ⟨w, e2, hw⟩ := jh_get (k := 1) hO ha rfl rfl
  obtain ⟨b, rfl, hb⟩ := jh_ref hw
  simp only at y0 y1
  rw [show jv_run (d + 1) 81 [.ref a, .ref c] h = jv_ev (jv_run d) 81 0 [some (.ref a), some (.ref c)] [] h from N81 (a0 := some c)]
  by_cases h1 : nI 17 ≤ y
  · simp (disch := first | omega | exact id rfl | exact jd_i | exact jd_r | exact jd_n | exact jd_f | decide | (simp (disch := omega) only [e1, e2, h1, Option.isSome_some])) only [e1, e2, h1, Option.isSome_some, Option.getD_some, Option.toList_some, Option.toList_none, List.cons_append, List.nil_append, E81_0, E81_1, E81_4, E81_6, E81_9, E81_10, E81_13, E81_14, E81_17, E81_17r, E81_18, E81_19, E81_20, E81_20i, E81_21, E81_24, E81_25, E81_26, E81_29, E81_30, E81_31, E81_34, E81_37, E81_37r, E81_38, E81_41, E81_44, E81_45, E81_48, E81_49, E81_52, if_true]
    exact jh_same hO True.intro
  · have h2 : ¬ (17 : Int) ≤ y.toInt := fun q => h1 ((jh_leN (by decide)).mpr q)
    have hk := jh_kn hO hb (q := 10) (kd := 3) rfl rfl (by decide)
    have hA := jh_isA (r := some c) hO (fun b e => by cases e; exact hc)
    simp only [va_rf] at hA
    obtain ⟨h', e3, hO', hF, hg⟩ := jh_st (pr := jc_pr) (x := y) (v := .ref c) hO hb (q := 10) (kd := 3) rfl rfl (by decide) (by omega) (by omega) (Or.inr ⟨c, rfl, hc⟩) rfl
    have e4 : jv_gf h' a 3 2 = some (.int y) := (hg a 3 2).trans e1
    have hy : (y + nI 1).toInt = y.toInt + 1 := jh_add1 (by omega)
    obtain ⟨h2', e5, hO2, hF2, _, hg2, _⟩ := jh_put (pr := jc_pr) (k := 2) (v := .int (y + nI 1)) hO' ha rfl rfl ⟨_, rfl, by rw [hy]; show (0 : Int) ≤ _; omega, by rw [hy]; show _ ≤ (17 : Int); omega⟩ rfl rfl
    obtain ⟨w, e6, hw⟩ := jh_get (k := 5) hO2 ha rfl rfl
    obtain ⟨p, rfl, _⟩ := hw
    obtain ⟨w, e7, hw⟩ := jh_get (k := 5) hO2 hc rfl rfl
    obtain ⟨q, rfl, _⟩ := hw
    obtain ⟨ha1, f1, hO3, hF3, _⟩ := jh_put (pr := jc_pr) (k := 5) (v := .int (nI 1)) hO2 ha rfl rfl ⟨_, rfl, by decide, by decide⟩ rfl rfl
    obtain ⟨ha0, f0, hO4, hF4, _⟩ := jh_put (pr := jc_pr) (k := 5) (v := .int (nI 0)) hO2 ha rfl rfl ⟨_, rfl, by decide, by decide⟩ rfl rfl
    by_cases h3 : p = 0
    · by_cases h4 : q = 0
      · simp (disch := first | omega | exact id rfl | exact jd_i | exact jd_r | exact jd_n | exact jd_f | decide | (simp (disch := omega) only [e1, e2, e3, e4, e5, e6, e7, f0, f1, hk, hA, h1, h3, h4, Option.isSome_some])) only [e1, e2, e3, e4, e5, e6, e7, f0, f1, hk, hA, h1, h3, h4, Option.isSome_some, Option.getD_some, Option.toList_some, Option.toList_none, List.cons_append, List.nil_append, E81_0, E81_1, E81_4, E81_6, E81_9, E81_10, E81_13, E81_14, E81_17, E81_17r, E81_18, E81_19, E81_20, E81_20i, E81_21, E81_24, E81_25, E81_26, E81_29, E81_30, E81_31, E81_34, E81_37, E81_37r, E81_38, E81_41, E81_44, E81_45, E81_48, E81_49, E81_52, if_true, if_false]
        exact ⟨_, _, rfl, hO4, jk_Fr_tr hF (jk_Fr_tr hF2 hF4), True.intro⟩
      · simp (disch := first | omega | exact id rfl | exact jd_i | exact jd_r | exact jd_n | exact jd_f | decide | (simp (disch := omega) only [e1, e2, e3, e4, e5, e6, e7, f0, f1, hk, hA, h1, h3, h4, Option.isSome_some])) only [e1, e2, e3, e4, e5, e6, e7, f0, f1, hk, hA, h1, h3, h4, Option.isSome_some, Option.getD_some, Option.toList_some, Option.toList_none, List.cons_append, List.nil_append, E81_0, E81_1, E81_4, E81_6, E81_9, E81_10, E81_13, E81_14, E81_17, E81_17r, E81_18, E81_19, E81_20, E81_20i, E81_21, E81_24, E81_25, E81_26, E81_29, E81_30, E81_31, E81_34, E81_37, E81_37r, E81_38, E81_41, E81_44, E81_45, E81_48, E81_49, E81_52, if_true, if_false]
        exact ⟨_, _, rfl, hO3, jk_Fr_tr hF (jk_Fr_tr hF2 hF3), True.intro⟩
    · simp (disch := first | omega | exact id rfl | exact jd_i | exact jd_r | exact jd_n | exact jd_f | decide | (simp (disch := omega) only [e1, e2, e3, e4, e5, e6, e7, f0, f1, hk, hA, h1, h3, Option.isSome_some])) only [e1, e2, e3, e4, e5, e6, e7, f0, f1, hk, hA, h1, h3, Option.isSome_some, Option.getD_some, Option.toList_some, Option.toList_none, List.cons_append, List.nil_append, E81_0, E81_1, E81_4, E81_6, E81_9, E81_10, E81_13, E81_14, E81_17, E81_17r, E81_18, E81_19, E81_20, E81_20i, E81_21, E81_24, E81_25, E81_26, E81_29, E81_30, E81_31, E81_34, E81_37, E81_37r, E81_38, E81_41, E81_44, E81_45, E81_48, E81_49, E81_52, if_true, if_false]
      exact ⟨_, _, rfl, hO3, jk_Fr_tr hF (jk_Fr_tr hF2 hF3), True.intro⟩
/-- the rows move up; the count is one less: it must not be 0 -/
theorem jh_drop {call : jv_F} {a : Nat} (ha : ρ a = some 3) : ∀ (t i : Nat), i + t = 17 → ∀ (h : jv_H) (x1 : Int32) (y : Int32), jk_Ok jc_RT ρ h → jv_gf h a 3 2 = some (.int y) → 1 ≤ y.toInt → ∃ h', jv_ev call 83 2 [some (.ref a), some (.int x1), some (.int (nI i))] [] h = some (none, h') ∧ jk_Ok jc_RT ρ h' ∧ jk_Fr jc_pr ρ h h' := by
  have fin : ∀ (h : jv_H) (l1 l2 : Option Value) (y : Int32), jk_Ok jc_RT ρ h → jv_gf h a 3 2 = some (.int y) → 1 ≤ y.toInt → ∃ h', jv_ev call 83 44 [some (.ref a), l1, l2] [] h = some (none, h') ∧ jk_Ok jc_RT ρ h' ∧ jk_Fr jc_pr ρ h h' := fun h l1 l2 y hO e1 hy => by
    obtain ⟨w, e2, hw⟩ := jh_get (k := 2) hO ha rfl rfl
    rw [e1] at e2
    cases e2
    obtain ⟨y', e3, y0, y1⟩ := hw
    cases e3
    simp only at y0 y1
    have hs : (y - nI 1).toInt = y.toInt - 1 := jh_sub1 (by omega)
    obtain ⟨h', e5, hO', hF, _⟩ := jh_put (pr := jc_pr) (k := 2) (v := .int (y - nI 1)) hO ha rfl rfl ⟨_, rfl, by rw [hs]; show (0 : Int) ≤ _; omega, by rw [hs]; show _ ≤ (17 : Int); omega⟩ rfl rfl
    refine ⟨h', ?_, hO', hF⟩
    simp (disch := first | omega | exact id rfl | exact jd_i | exact jd_r | exact jd_n | exact jd_f | decide | (simp (disch := omega) only [e1, e5, Option.isSome_some])) only [e1, e5, Option.isSome_some, Option.getD_some, Option.toList_some, Option.toList_none, List.cons_append, List.nil_append, E83_44, E83_45, E83_46, E83_49, E83_50, E83_51, E83_54]
  intro t
  induction t with
  | zero =>
    intro i hi h x1 y hO e1 hy
    have e : i = 17 := by omega
    subst e
    obtain ⟨h', e2, hO', hF⟩ := fin h (some (.int x1)) (some (.int (nI 17))) y hO e1 hy
    refine ⟨h', ?_, hO', hF⟩
    rw [← e2]
    have b1 : ¬ nI 17 < 0 := by decide
    have b2 : nI 17 ≤ nI (17 + 1) := by decide
    by_cases h2 : y ≤ nI (17 + 1)
    · simp (disch := first | omega | exact id rfl | exact jd_i | exact jd_r | exact jd_n | exact jd_f | decide | (simp (disch := omega) only [e1, b1, h2, nI_add, Option.isSome_some])) only [e1, b1, h2, nI_add, Option.isSome_some, Option.getD_some, Option.toList_some, Option.toList_none, List.cons_append, List.nil_append, E83_2, E83_3, E83_6, E83_7, E83_8, E83_9, E83_10, E83_13, if_false, if_true]
    · simp (disch := first | omega | exact id rfl | exact jd_i | exact jd_r | exact jd_n | exact jd_f | decide | (simp (disch := omega) only [e1, b1, b2, h2, nI_add, Option.isSome_some])) only [e1, b1, b2, h2, nI_add, Option.isSome_some, Option.getD_some, Option.toList_some, Option.toList_none, List.cons_append, List.nil_append, E83_2, E83_3, E83_6, E83_7, E83_8, E83_9, E83_10, E83_13, E83_16, E83_17, E83_18, E83_19, E83_21, if_false, if_true]
  | succ t ih =>
    intro i hi h x1 y hO e1 hy
    have b1 : ¬ nI i < 0 := nI_pos (by omega)
    by_cases h2 : y ≤ nI (i + 1)
    · obtain ⟨h', e2, hO', hF⟩ := fin h (some (.int x1)) (some (.int (nI i))) y hO e1 hy
      refine ⟨h', ?_, hO', hF⟩
      rw [← e2]
      simp (disch := first | omega | exact id rfl | exact jd_i | exact jd_r | exact jd_n | exact jd_f | decide | (simp (disch := omega) only [e1, b1, h2, nI_add, Option.isSome_some])) only [e1, b1, h2, nI_add, Option.isSome_some, Option.getD_some, Option.toList_some, Option.toList_none, List.cons_append, List.nil_append, E83_2, E83_3, E83_6, E83_7, E83_8, E83_9, E83_10, E83_13, if_false, if_true]
    · by_cases h3 : nI 17 ≤ nI (i + 1)
      · obtain ⟨h', e2, hO', hF⟩ := fin h (some (.int x1)) (some (.int (nI i))) y hO e1 hy
        refine ⟨h', ?_, hO', hF⟩
        rw [← e2]
        simp (disch := first | omega | exact id rfl | exact jd_i | exact jd_r | exact jd_n | exact jd_f | decide | (simp (disch := omega) only [e1, b1, h2, h3, nI_add, Option.isSome_some])) only [e1, b1, h2, h3, nI_add, Option.isSome_some, Option.getD_some, Option.toList_some, Option.toList_none, List.cons_append, List.nil_append, E83_2, E83_3, E83_6, E83_7, E83_8, E83_9, E83_10, E83_13, E83_16, E83_17, E83_18, E83_19, E83_21, if_false, if_true]
      · have h4 : i + 1 < 17 := by
          rw [nI_leI (by decide) (by omega)] at h3
          omega
        obtain ⟨w, e2, hw⟩ := jh_get (k := 1) hO ha rfl rfl
        obtain ⟨b, rfl, hb⟩ := jh_ref hw
        have hk := jh_kn hO hb (q := 10) (kd := 3) rfl rfl (by decide)
        have t1 : (nI (i + 1)).toInt = ((i + 1 : Nat) : Int) := nI_toInt (by omega)
        have t0 : (nI i).toInt = ((i : Nat) : Int) := nI_toInt (by omega)
        obtain ⟨u, e3, hu⟩ := jh_ld (x := nI (i + 1)) hO hb (q := 10) (kd := 3) rfl rfl (by rw [t1]; omega) (by rw [t1]; omega)
        obtain ⟨r, rfl, hr⟩ := jh_rfn hu
        have hA := jh_isA hO hr
        obtain ⟨h1, e4, hO1, hF1, hg⟩ := jh_st (pr := jc_pr) (x := nI i) (v := va_rf r) hO hb (q := 10) (kd := 3) rfl rfl (by decide) (by rw [t0]; omega) (by rw [t0]; omega) (jh_rfV hr) rfl
        obtain ⟨h', e5, hO', hF⟩ := ih (i + 1) (by omega) h1 x1 y hO1 ((hg a 3 2).trans e1) hy
        refine ⟨h', ?_, hO', jk_Fr_tr hF1 hF⟩
        rw [← e5]
        rw [E83_2]
        simp (disch := first | omega | exact id rfl | exact jd_i | exact jd_r | exact jd_n | exact jd_f | decide | (simp (disch := omega) only [e1, e2, e3, e4, hk, hA, b1, h2, h3, nI_add, Option.isSome_some])) only [e1, e2, e3, e4, hk, hA, b1, h2, h3, nI_add, Option.isSome_some, Option.getD_some, Option.toList_some, Option.toList_none, List.cons_append, List.nil_append, E83_0, E83_1, E83_3, E83_6, E83_7, E83_8, E83_9, E83_10, E83_13, E83_16, E83_17, E83_18, E83_19, E83_21, E83_24, E83_25, E83_28, E83_29, E83_30, E83_33, E83_34, E83_35, E83_36, E83_37, E83_38, E83_41, if_false, if_true]
/-- from any place: a number below 0 or above 16 moves nothing -/
theorem jh_s83 {d : Nat} {a : Nat} {x y : Int32} (ha : ρ a = some 3) (hO : jk_Ok jc_RT ρ h) (e1 : jv_gf h a 3 2 = some (.int y)) (hy : 1 ≤ y.toInt) (hx : 0 ≤ x.toInt) (hx2 : x.toInt ≤ 17) : ∃ h', jv_run (d + 1) 83 [.ref a, .int x] h = some (none, h') ∧ jk_Ok jc_RT ρ h' ∧ jk_Fr jc_pr ρ h h' := by
  obtain ⟨i, hi, rfl⟩ := nI_of (x := x) (fun q => by have := jh_lt0.mp q; omega)
  rw [nI_toInt hi] at hx2
  obtain ⟨h', e2, hO', hF⟩ := jh_drop (call := jv_run d) ha (17 - i) i (by omega) h (nI i) y hO e1 hy
  refine ⟨h', ?_, hO', hF⟩
  rw [← e2, N83]
  simp (disch := first | omega | exact id rfl | exact jd_i | exact jd_r | exact jd_n | exact jd_f | decide | (simp (disch := omega) only [e1, Option.isSome_some])) only [e1, Option.isSome_some, Option.getD_some, Option.toList_some, Option.toList_none, List.cons_append, List.nil_append, E83_0, E83_1]
end JH
