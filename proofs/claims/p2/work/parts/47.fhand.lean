/-! cancel, begin, a number's print: by hand -/
section JH
variable {ρ : jk_R} {h : jv_H}
theorem jh_keep {RT : List jk_D} {pr : Nat → Nat → Bool} {h h' : jv_H} {a q k : Nat} (hF : jk_Fr pr ρ h h') (ha : ρ a = some q) (hp : pr q k = true) {c : Nat} {v : Value} (e : jv_gf h a c k = some v) : jv_gf h' a c k = some v := by
  unfold jv_gf at e ⊢
  split at e
  · rename_i ci fs hc
    obtain ⟨c', e2, hs⟩ := hF.2.2 a q _ ha hc
    rcases c' with ⟨ci', fs'⟩ | ⟨kd, n, f⟩
    · rw [e2]
      obtain ⟨rfl, _, hk⟩ := hs
      simp only
      rw [hk k hp]
      exact e
    · exact hs.elim
  · cases e
theorem jh_Fr_mono {pr pr' : Nat → Nat → Bool} {h h' : jv_H} (hm : ∀ q k, pr q k = true → pr' q k = true) (hF : jk_Fr pr' ρ h h') : jk_Fr pr ρ h h' := by
  refine ⟨hF.1, hF.2.1, fun a q c ha hc => ?_⟩
  obtain ⟨c', e, hs⟩ := hF.2.2 a q c ha hc
  refine ⟨c', e, ?_⟩
  rcases c with ⟨ci, fs⟩ | ⟨kd, n, f⟩ <;> rcases c' with ⟨ci', fs'⟩ | ⟨kd', n', f'⟩
  · exact ⟨hs.1, hs.2.1, fun k hk => hs.2.2 k (hm q k hk)⟩
  · exact hs.elim
  · exact hs.elim
  · exact ⟨hs.1, hs.2.1, fun hk => hs.2.2 (hm q 0 hk)⟩
/-- the end of cancel: writePending && !leaving -/
theorem jh_wp {call : jv_F} {a c : Nat} {l2 : Option Value} (hO : jk_Ok jc_RT ρ h) (ha : ρ a = some 3) (hc : ρ c = some 5) : ∃ h', jv_ev call 82 31 [some (.ref a), some (.ref c), l2] [] h = some (none, h') ∧ jk_Ok jc_RT ρ h' ∧ jk_Fr jc_pr ρ h h' := by
  obtain ⟨w, e6, hw⟩ := jh_get (k := 5) hO ha rfl rfl
  obtain ⟨p, rfl, _⟩ := hw
  obtain ⟨w, e7, hw⟩ := jh_get (k := 5) hO hc rfl rfl
  obtain ⟨q, rfl, _⟩ := hw
  obtain ⟨ha1, f1, hO3, hF3, _⟩ := jh_put (pr := jc_pr) (k := 5) (v := .int (nI 1)) hO ha rfl rfl ⟨_, rfl, by decide, by decide⟩ rfl rfl
  obtain ⟨ha0, f0, hO4, hF4, _⟩ := jh_put (pr := jc_pr) (k := 5) (v := .int (nI 0)) hO ha rfl rfl ⟨_, rfl, by decide, by decide⟩ rfl rfl
  by_cases h3 : p = 0
  · refine ⟨ha0, ?_, hO4, hF4⟩
    simp (disch := first | omega | exact id rfl | exact jd_i | exact jd_r | exact jd_n | exact jd_f | decide | (simp (disch := omega) only [e6, e7, f0, f1, h3, Option.isSome_some])) only [e6, e7, f0, f1, h3, Option.isSome_some, Option.getD_some, Option.toList_some, Option.toList_none, List.cons_append, List.nil_append, E82_31, E82_32, E82_33, E82_36, E82_50, E82_51, E82_54, if_true]
  · by_cases h4 : q = 0
    · refine ⟨ha1, ?_, hO3, hF3⟩
      simp (disch := first | omega | exact id rfl | exact jd_i | exact jd_r | exact jd_n | exact jd_f | decide | (simp (disch := omega) only [e6, e7, f0, f1, h3, h4, Option.isSome_some])) only [e6, e7, f0, f1, h3, h4, Option.isSome_some, Option.getD_some, Option.toList_some, Option.toList_none, List.cons_append, List.nil_append, E82_31, E82_32, E82_33, E82_36, E82_39, E82_40, E82_43, E82_46, E82_47, E82_51, E82_54, if_false, not_true_eq_false]
    · refine ⟨ha0, ?_, hO4, hF4⟩
      simp (disch := first | omega | exact id rfl | exact jd_i | exact jd_r | exact jd_n | exact jd_f | decide | (simp (disch := omega) only [e6, e7, f0, f1, h3, h4, Option.isSome_some])) only [e6, e7, f0, f1, h3, h4, Option.isSome_some, Option.getD_some, Option.toList_some, Option.toList_none, List.cons_append, List.nil_append, E82_31, E82_32, E82_33, E82_36, E82_39, E82_40, E82_43, E82_50, E82_51, E82_54, if_false, not_false_eq_true, if_true]
theorem jh_cancel {d a c : Nat} (ha : ρ a = some 3) (hc : ρ c = some 5) (hO : jk_Ok jc_RT ρ h) {y : Int32} (e1 : jv_gf h a 3 2 = some (.int y)) : ∀ (t i : Nat), i + t = 17 → ∃ h', jv_ev (jv_run (d + 1)) 82 2 [some (.ref a), some (.ref c), some (.int (nI i))] [] h = some (none, h') ∧ jk_Ok jc_RT ρ h' ∧ jk_Fr jc_pr ρ h h'
  | 0, i, hi => by
    have e : i = 17 := by omega
    subst e
    refine ⟨h, ?_, hO, jk_Fr_rf h⟩
    by_cases h1 : y ≤ nI 17
    · simp (disch := first | omega | exact id rfl | exact jd_i | exact jd_r | exact jd_n | exact jd_f | decide | (simp (disch := omega) only [e1, h1, Option.isSome_some])) only [e1, h1, Option.isSome_some, Option.getD_some, Option.toList_some, Option.toList_none, List.cons_append, List.nil_append, E82_2, E82_3, E82_4, E82_7, E82_61, if_true]
    · have h2 : nI 17 ≤ nI 17 := by decide
      simp (disch := first | omega | exact id rfl | exact jd_i | exact jd_r | exact jd_n | exact jd_f | decide | (simp (disch := omega) only [e1, h1, h2, Option.isSome_some])) only [e1, h1, h2, Option.isSome_some, Option.getD_some, Option.toList_some, Option.toList_none, List.cons_append, List.nil_append, E82_2, E82_3, E82_4, E82_7, E82_10, E82_11, E82_13, E82_61, if_true, if_false]
  | t + 1, i, hi => by
    by_cases h1 : y ≤ nI i
    · refine ⟨h, ?_, hO, jk_Fr_rf h⟩
      simp (disch := first | omega | exact id rfl | exact jd_i | exact jd_r | exact jd_n | exact jd_f | decide | (simp (disch := omega) only [e1, h1, Option.isSome_some])) only [e1, h1, Option.isSome_some, Option.getD_some, Option.toList_some, Option.toList_none, List.cons_append, List.nil_append, E82_2, E82_3, E82_4, E82_7, E82_61, if_true]
    · have h2 : ¬ nI 17 ≤ nI i := by rw [nI_leI (by decide) (by omega)]; omega
      have t0 : (nI i).toInt = ((i : Nat) : Int) := nI_toInt (by omega)
      have hy : 1 ≤ y.toInt := by
        have := Int32.not_le.mp h1
        rw [Int32.lt_iff_toInt_lt, t0] at this
        omega
      obtain ⟨w, e2, hw⟩ := jh_get (k := 1) hO ha rfl rfl
      obtain ⟨b, rfl, hb⟩ := jh_ref hw
      have hk := jh_kn hO hb (q := 10) (kd := 3) rfl rfl (by decide)
      obtain ⟨u, e3, hu⟩ := jh_ld (x := nI i) hO hb (q := 10) (kd := 3) rfl rfl (by rw [t0]; omega) (by rw [t0]; omega)
      obtain ⟨r, rfl, hr⟩ := jh_rfn hu
      have hcl := jh_cl hO ha (q := 3) rfl
      by_cases h3 : r = some c
      · subst h3
        obtain ⟨h1', e4, hO1, hF1⟩ := jh_s83 (d := d) (x := nI i) ha hO e1 hy (by rw [t0]; omega) (by rw [t0]; omega)
        obtain ⟨h', e5, hO', hF⟩ := jh_wp (call := jv_run (d + 1)) (l2 := some (.int (nI i))) hO1 ha hc
        refine ⟨h', ?_, hO', jk_Fr_tr hF1 hF⟩
        rw [← e5]
        simp (disch := first | omega | exact id rfl | exact jd_i | exact jd_r | exact jd_n | exact jd_f | decide | (simp (disch := omega) only [e1, e2, e3, e4, hk, hcl, h1, h2, Option.isSome_some])) only [e1, e2, e3, e4, hk, hcl, h1, h2, Option.isSome_some, Option.getD_some, Option.toList_some, Option.toList_none, List.cons_append, List.nil_append, E82_2, E82_3, E82_4, E82_7, E82_10, E82_11, E82_13, E82_16, E82_17, E82_20, E82_21, E82_22, if_false]
        rw [E82_23f, if_pos rfl]
        simp (disch := first | omega | exact id rfl | exact jd_i | exact jd_r | exact jd_n | exact jd_f | decide | (simp (disch := omega) only [e4, hcl, Option.isSome_some])) only [e4, hcl, Option.isSome_some, Option.getD_some, Option.toList_some, Option.toList_none, List.cons_append, List.nil_append, E82_26, E82_27, E82_28]
      · obtain ⟨h', e5, hO', hF⟩ := jh_cancel (d := d) ha hc hO e1 t (i + 1) (by omega)
        refine ⟨h', ?_, hO', hF⟩
        rw [← e5]
        have h4 : ¬ r = some c := h3
        rw [E82_2]
        simp (disch := first | omega | exact id rfl | exact jd_i | exact jd_r | exact jd_n | exact jd_f | decide | (simp (disch := omega) only [e1, e2, e3, hk, hcl, h1, h2, nI_add, Option.isSome_some])) only [e1, e2, e3, hk, hcl, h1, h2, nI_add, Option.isSome_some, Option.getD_some, Option.toList_some, Option.toList_none, List.cons_append, List.nil_append, E82_3, E82_4, E82_7, E82_10, E82_11, E82_13, E82_16, E82_17, E82_20, E82_21, E82_22, if_false]
        rw [E82_23f, if_neg h4]
        simp (disch := first | omega | exact id rfl | exact jd_i | exact jd_r | exact jd_n | exact jd_f | decide | (simp (disch := omega) only [e1, nI_add, Option.isSome_some])) only [e1, nI_add, Option.isSome_some, Option.getD_some, Option.toList_some, Option.toList_none, List.cons_append, List.nil_append, E82_55, E82_58]
theorem jc_s82 (d : Nat) : jk_Sp jc_RT jc_pr jc_sg (jv_run (d + 2)) 82 := jh_sp2 (q := 3) (t := .inr (.inr (5, true))) rfl fun ρ h a v hO ha hv => by
  obtain ⟨c, rfl, hc⟩ := jh_ref hv
  obtain ⟨w, e1, hw⟩ := jh_get (k := 2) hO ha rfl rfl
  obtain ⟨y, rfl, _⟩ := hw
  obtain ⟨h', e2, hO', hF⟩ := jh_cancel (d := d) ha hc hO e1 17 0 rfl
  rw [show jv_run (d + 2) 82 [.ref a, .ref c] h = jv_ev (jv_run (d + 1)) 82 0 [some (.ref a), some (.ref c), none] [] h from N82 (a0 := some c)]
  simp (disch := first | omega | exact id rfl | exact jd_i | exact jd_r | exact jd_n | exact jd_f | decide | (simp (disch := omega) only [e1, Option.isSome_some])) only [e1, Option.isSome_some, Option.getD_some, Option.toList_some, Option.toList_none, List.cons_append, List.nil_append, E82_0, E82_1]
  exact ⟨_, _, e2, hO', hF, True.intro⟩
/-- the drum begins: what it calls keeps askedCount (ja_: the same checker with one field more kept) -/
theorem jc_s84 (d : Nat) : jk_Sp jc_RT jc_pr jc_sg (jv_run (d + 4)) 84 := jh_sp2 (q := 3) (t := jk_top) rfl fun ρ h a v hO ha hv => by
  obtain ⟨x, rfl, _⟩ := hv
  obtain ⟨w, e1, hw⟩ := jh_get (k := 2) hO ha rfl rfl
  obtain ⟨y, rfl, y0, y1⟩ := hw
  simp only at y0 y1
  obtain ⟨w, e2, hw⟩ := jh_get (k := 1) hO ha rfl rfl
  obtain ⟨b, rfl, hb⟩ := jh_ref hw
  have hk := jh_kn hO hb (q := 10) (kd := 3) rfl rfl (by decide)
  obtain ⟨u, e3, hu⟩ := jh_ld (x := nI 0) hO hb (q := 10) (kd := 3) rfl rfl (by decide) (by decide)
  obtain ⟨r, rfl, hr⟩ := jh_rfn hu
  obtain ⟨w, e4, hw⟩ := jh_get (k := 3) hO ha rfl rfl
  obtain ⟨uw, rfl, huw⟩ := jh_rfn hw
  have hret : jk_Gd jc_RT jc_pr none ρ h (some (none, h)) := jh_same hO True.intro
  rw [N84]
  cases uw with
  | some uw =>
    simp (disch := first | omega | exact id rfl | exact jd_i | exact jd_r | exact jd_n | exact jd_f | decide | (simp (disch := omega) only [e1, e2, e3, e4, hk, Option.isSome_some])) only [e1, e2, e3, e4, hk, Option.isSome_some, Option.getD_some, Option.toList_some, Option.toList_none, List.cons_append, List.nil_append, E84_0, E84_1, E84_4, E84_5, E84_6r, E84_7, E84_8]
    rw [E84_11r, if_neg (by simp)]
    simp (disch := first | omega | exact id rfl | exact jd_i | exact jd_r | exact jd_n | exact jd_f | decide | (simp (disch := omega) only [e1, Option.isSome_some])) only [e1, Option.isSome_some, Option.getD_some, Option.toList_some, Option.toList_none, List.cons_append, List.nil_append, E84_25]
    exact hret
  | none =>
    by_cases h1 : y = 0
    · simp (disch := first | omega | exact id rfl | exact jd_i | exact jd_r | exact jd_n | exact jd_f | decide | (simp (disch := omega) only [e1, e2, e3, e4, hk, Option.isSome_some])) only [e1, e2, e3, e4, hk, Option.isSome_some, Option.getD_some, Option.toList_some, Option.toList_none, List.cons_append, List.nil_append, E84_0, E84_1, E84_4, E84_5, E84_6r, E84_7, E84_8]
      rw [E84_11r, if_pos rfl]
      simp (disch := first | omega | exact id rfl | exact jd_i | exact jd_r | exact jd_n | exact jd_f | decide | (simp (disch := omega) only [e1, h1, Option.isSome_some])) only [e1, h1, Option.isSome_some, Option.getD_some, Option.toList_some, Option.toList_none, List.cons_append, List.nil_append, E84_14, E84_15, E84_18, E84_25, if_true]
      exact hret
    · cases r with
      | none =>
        simp (disch := first | omega | exact id rfl | exact jd_i | exact jd_r | exact jd_n | exact jd_f | decide | (simp (disch := omega) only [e1, e2, e3, e4, hk, Option.isSome_some])) only [e1, e2, e3, e4, hk, Option.isSome_some, Option.getD_some, Option.toList_some, Option.toList_none, List.cons_append, List.nil_append, E84_0, E84_1, E84_4, E84_5, E84_6r, E84_7, E84_8]
        rw [E84_11r, if_pos rfl]
        simp (disch := first | omega | exact id rfl | exact jd_i | exact jd_r | exact jd_n | exact jd_f | decide | (simp (disch := omega) only [e1, h1, Option.isSome_some])) only [e1, h1, Option.isSome_some, Option.getD_some, Option.toList_some, Option.toList_none, List.cons_append, List.nil_append, E84_14, E84_15, E84_18, if_false, E84_21r]
        rw [E84_22r, if_pos rfl]
        simp (disch := first | omega | exact id rfl | exact jd_i | exact jd_r | exact jd_n | exact jd_f | decide | (simp (disch := omega) only [e1, Option.isSome_some])) only [e1, Option.isSome_some, Option.getD_some, Option.toList_some, Option.toList_none, List.cons_append, List.nil_append, E84_25]
        exact hret
      | some f =>
        have hf := hr f rfl
        have y2 : 1 ≤ y.toInt := by
          by_cases q : y.toInt = 0
          · exact absurd (Int32.toInt_inj.mp (q.trans (by decide))) h1
          · omega
        have start : jv_ev (jv_run (d + 3)) 84 0 [some (.ref a), some (.int x), none, none] [] h = jv_ev (jv_run (d + 3)) 84 26 [some (.ref a), some (.int x), some (.ref f), none] [] h := by
          simp (disch := first | omega | exact id rfl | exact jd_i | exact jd_r | exact jd_n | exact jd_f | decide | (simp (disch := omega) only [e1, e2, e3, e4, hk, Option.isSome_some])) only [e1, e2, e3, e4, hk, Option.isSome_some, Option.getD_some, Option.toList_some, Option.toList_none, List.cons_append, List.nil_append, E84_0, E84_1, E84_4, E84_5, E84_6r, E84_7, E84_8]
          rw [E84_11r, if_pos rfl]
          simp (disch := first | omega | exact id rfl | exact jd_i | exact jd_r | exact jd_n | exact jd_f | decide | (simp (disch := omega) only [e1, h1, Option.isSome_some])) only [e1, h1, Option.isSome_some, Option.getD_some, Option.toList_some, Option.toList_none, List.cons_append, List.nil_append, E84_14, E84_15, E84_18, if_false, E84_21r]
          rw [E84_22r, if_neg (by simp)]
          rfl
        rw [start]
        obtain ⟨w, e5, hw⟩ := jh_get (k := 5) hO hf rfl rfl
        obtain ⟨lv, rfl, _⟩ := hw
        obtain ⟨w, e6, hw⟩ := jh_get (k := 3) hO hf rfl rfl
        obtain ⟨sc, rfl, _⟩ := hw
        /- behind the begin: 93 -/
        have tail : ∀ (h : jv_H) (s : Int32), jk_Ok jc_RT ρ h → jv_gf h a 3 2 = some (.int y) → ∃ h', jv_ev (jv_run (d + 3)) 84 93 [some (.ref a), some (.int x), some (.ref f), some (.int s)] [] h = some (none, h') ∧ jk_Ok jc_RT ρ h' ∧ jk_Fr jc_pr ρ h h' := fun h s hO e1 => by
          have hcl := jh_cl hO ha (q := 3) rfl
          obtain ⟨h1', f1, hO1, hF1⟩ := jh_s83 (d := d + 2) (x := nI 0) ha hO e1 y2 (by decide) (by decide)
          obtain ⟨h2', f2, hO2, hF2, _⟩ := jh_put (pr := jc_pr) (k := 3) (v := .ref f) hO1 ha rfl rfl (Or.inr ⟨f, rfl, hf⟩) rfl rfl
          obtain ⟨r3, h3', f3, hO3, hF3, hR3⟩ := jc_s87 (d + 1) _ _ rfl ρ h2' [.int s, .int x] hO2 ⟨jk_V_top, jk_V_top, True.intro⟩
          cases r3 with
          | none => exact hR3.elim
          | some v3 =>
            obtain ⟨z3, rfl, _⟩ := hR3
            obtain ⟨h4', f4, hO4, hF4, _⟩ := jh_put (pr := jc_pr) (k := 4) (v := .int (x + z3 + nI 2)) hO3 ha rfl rfl jk_V_top rfl rfl
            refine ⟨h4', ?_, hO4, jk_Fr_tr hF1 (jk_Fr_tr hF2 (jk_Fr_tr hF3 hF4))⟩
            simp (disch := first | omega | exact id rfl | exact jd_i | exact jd_r | exact jd_n | exact jd_f | decide | (simp (disch := omega) only [f1, f2, f3, f4, hcl, Option.isSome_some])) only [f1, f2, f3, f4, hcl, Option.isSome_some, Option.getD_some, Option.toList_some, Option.toList_none, List.cons_append, List.nil_append, E84_93, E84_94, E84_95, E84_98, E84_99, E84_100, E84_103, E84_104, E84_105, E84_106, E84_107, E84_110, E84_111, E84_112, E84_113, E84_116]
        /- put or release, then the tail: from 52 -/
        have mid : ∀ (h : jv_H) (s : Int32), jk_Ok jc_RT ρ h → jv_gf h a 3 2 = some (.int y) → ∃ h', jv_ev (jv_run (d + 3)) 84 52 [some (.ref a), some (.int x), some (.ref f), some (.int s)] [] h = some (none, h') ∧ jk_Ok jc_RT ρ h' ∧ jk_Fr jc_pr ρ h h' := fun h s hO e1 => by
          have hcl := jh_cl hO ha (q := 3) rfl
          obtain ⟨w, e5, hw⟩ := jh_get (k := 5) hO hf rfl rfl
          obtain ⟨lv, rfl, _⟩ := hw
          by_cases h5 : lv = 0
          · obtain ⟨r1, h1', f1, hO1, hF1, hR1⟩ := ja_s80 (d + 2) _ _ rfl ρ h [.ref a, .ref f] hO ⟨Or.inr ⟨a, rfl, ha⟩, Or.inr ⟨f, rfl, hf⟩, True.intro⟩
            cases r1 with
            | some v => exact hR1.elim
            | none =>
              obtain ⟨w, e7, hw⟩ := jh_get (k := 6) hO1 ha rfl rfl
              obtain ⟨rd, rfl, _⟩ := hw
              obtain ⟨h2', f2, hO2, hF2, _, hg2, _⟩ := jh_put (pr := jc_pr) (k := 6) (v := .int (rd + nI 1)) hO1 ha rfl rfl jk_V_top rfl rfl
              have e8 := jh_keep (RT := jc_RT) hF1 ha (k := 2) rfl e1
              obtain ⟨h', f3, hO', hF'⟩ := tail h2' s hO2 ((hg2 a 3 2 (by simp)).trans e8)
              refine ⟨h', ?_, hO', jk_Fr_tr (jh_Fr_mono ja_pr_le hF1) (jk_Fr_tr hF2 hF')⟩
              rw [← f3]
              simp (disch := first | omega | exact id rfl | exact jd_i | exact jd_r | exact jd_n | exact jd_f | decide | (simp (disch := omega) only [e5, e7, f1, f2, hcl, h5, Option.isSome_some])) only [e5, e7, f1, f2, hcl, h5, Option.isSome_some, Option.getD_some, Option.toList_some, Option.toList_none, List.cons_append, List.nil_append, E84_52, E84_53, E84_56, E84_78, E84_79, E84_80, E84_83, E84_84, E84_85, E84_88, E84_89, E84_90, if_true]
          · obtain ⟨r1, h1', f1, hO1, hF1, hR1⟩ := ja_s79 (d + 2) _ _ rfl ρ h [.ref a, .ref f, .int s] hO ⟨Or.inr ⟨a, rfl, ha⟩, Or.inr ⟨f, rfl, hf⟩, jk_V_top, True.intro⟩
            cases r1 with
            | some v => exact hR1.elim
            | none =>
              obtain ⟨w, e7, hw⟩ := jh_get (k := 7) hO1 ha rfl rfl
              obtain ⟨wr, rfl, _⟩ := hw
              obtain ⟨h2', f2, hO2, hF2, _, hg2, _⟩ := jh_put (pr := jc_pr) (k := 7) (v := .int (wr + nI 1)) hO1 ha rfl rfl jk_V_top rfl rfl
              have e8 := jh_keep (RT := jc_RT) hF1 ha (k := 2) rfl e1
              obtain ⟨h', f3, hO', hF'⟩ := tail h2' s hO2 ((hg2 a 3 2 (by simp)).trans e8)
              refine ⟨h', ?_, hO', jk_Fr_tr (jh_Fr_mono ja_pr_le hF1) (jk_Fr_tr hF2 hF')⟩
              rw [← f3]
              simp (disch := first | omega | exact id rfl | exact jd_i | exact jd_r | exact jd_n | exact jd_f | decide | (simp (disch := omega) only [e5, e7, f1, f2, hcl, h5, Option.isSome_some])) only [e5, e7, f1, f2, hcl, h5, Option.isSome_some, Option.getD_some, Option.toList_some, Option.toList_none, List.cons_append, List.nil_append, E84_52, E84_53, E84_56, E84_59, E84_60, E84_61, E84_62, E84_65, E84_66, E84_67, E84_70, E84_71, E84_72, E84_75, if_false]
        /- the sector, then 52 or the end -/
        have sect : ∀ (h : jv_H) (s : Int32), jk_Ok jc_RT ρ h → jv_gf h a 3 2 = some (.int y) → ∃ h', jv_ev (jv_run (d + 3)) 84 45 [some (.ref a), some (.int x), some (.ref f), none] [.int s] h = some (none, h') ∧ jk_Ok jc_RT ρ h' ∧ jk_Fr jc_pr ρ h h' := fun h s hO e1 => by
          by_cases h6 : s = -1
          · refine ⟨h, ?_, hO, jk_Fr_rf h⟩
            simp (disch := first | omega | exact id rfl | exact jd_i | exact jd_r | exact jd_n | exact jd_f | decide | (simp (disch := omega) only [h6, Option.isSome_some])) only [h6, Option.isSome_some, Option.getD_some, Option.toList_some, Option.toList_none, List.cons_append, List.nil_append, E84_45, E84_46, E84_47, E84_48, E84_51, not_true_eq_false, if_false]
          · obtain ⟨h', f3, hO', hF'⟩ := mid h s hO e1
            refine ⟨h', ?_, hO', hF'⟩
            rw [← f3]
            simp (disch := first | omega | exact id rfl | exact jd_i | exact jd_r | exact jd_n | exact jd_f | decide | (simp (disch := omega) only [h6, Option.isSome_some])) only [h6, Option.isSome_some, Option.getD_some, Option.toList_some, Option.toList_none, List.cons_append, List.nil_append, E84_45, E84_46, E84_47, E84_48, not_false_eq_true, if_true]
        by_cases h5 : lv = 0
        · obtain ⟨h', f3, hO', hF'⟩ := sect h sc hO e1
          refine ⟨none, h', ?_, hO', hF', True.intro⟩
          rw [← f3]
          simp (disch := first | omega | exact id rfl | exact jd_i | exact jd_r | exact jd_n | exact jd_f | decide | (simp (disch := omega) only [e5, e6, h5, Option.isSome_some])) only [e5, e6, h5, Option.isSome_some, Option.getD_some, Option.toList_some, Option.toList_none, List.cons_append, List.nil_append, E84_26, E84_27, E84_30, E84_41, E84_42, if_true]
        · have hcl := jh_cl hO ha (q := 3) rfl
          obtain ⟨r1, h1', f1, hO1, hF1, hR1⟩ := ja_s86 d _ _ rfl ρ h [.ref a, .int x] hO ⟨Or.inr ⟨a, rfl, ha⟩, jk_V_top, True.intro⟩
          cases r1 with
          | none => exact hR1.elim
          | some v1 =>
            obtain ⟨s, rfl, _⟩ := hR1
            obtain ⟨h', f3, hO', hF'⟩ := sect h1' s hO1 (jh_keep (RT := jc_RT) hF1 ha (k := 2) rfl e1)
            refine ⟨none, h', ?_, hO', jk_Fr_tr (jh_Fr_mono ja_pr_le hF1) hF', True.intro⟩
            rw [← f3]
            simp (disch := first | omega | exact id rfl | exact jd_i | exact jd_r | exact jd_n | exact jd_f | decide | (simp (disch := omega) only [e5, f1, hcl, h5, Option.isSome_some])) only [e5, f1, hcl, h5, Option.isSome_some, Option.getD_some, Option.toList_some, Option.toList_none, List.cons_append, List.nil_append, E84_26, E84_27, E84_30, E84_33, E84_34, E84_35, E84_38, if_false]
end JH
