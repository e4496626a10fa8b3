/-! methods of the class that the checker doesn't take: by hand -/
section JH
variable {RT : List jk_D} {pr : Nat → Nat → Bool} {ρ : jk_R} {h : jv_H}
theorem jh_get {a q ci k : Nat} {ts : List jk_T} {t : jk_T} (hO : jk_Ok RT ρ h) (ha : ρ a = some q) (hr : RT[q]? = some (.inl (ci, ts))) (ht : ts[k]? = some t) : ∃ v, jv_gf h a ci k = some v ∧ jk_V ρ t v := by
  obtain ⟨d, c, h1, h2, h3⟩ := hO a q ha
  rw [hr] at h1
  cases h1
  rcases c with ⟨ci2, fs⟩ | ⟨kd, n, f⟩
  · obtain ⟨rfl, hV⟩ := h3
    obtain ⟨v, e, hv⟩ := jk_Vs_get hV ht
    refine ⟨v, ?_, hv⟩
    unfold jv_gf
    rw [h2]
    exact (if_pos rfl).trans e
  · exact h3.elim
theorem jh_put {a q ci k : Nat} {ts : List jk_T} {t : jk_T} {v : Value} (hO : jk_Ok RT ρ h) (ha : ρ a = some q) (hr : RT[q]? = some (.inl (ci, ts))) (ht : ts[k]? = some t) (hv : jk_V ρ t v) (hf : jk_fit (jt_fty ci k) t = true) (hp : pr q k = false) : ∃ h', jv_pf h a ci k v = some h' ∧ jk_Ok RT ρ h' ∧ jk_Fr pr ρ h h' ∧ jv_gf h' a ci k = some v ∧ (∀ b c m, ¬ (b = a ∧ m = k) → jv_gf h' b c m = jv_gf h b c m) ∧ ∀ b ty j, jv_al h' b ty j = jv_al h b ty j := by
  obtain ⟨d, c, h1, h2, h3⟩ := hO a q ha
  rw [hr] at h1
  cases h1
  rcases c with ⟨ci2, fs⟩ | ⟨kd, n, f⟩
  · obtain ⟨rfl, hV⟩ := h3
    have hk : k < fs.length := by rw [jk_Vs_len hV]; exact (List.getElem?_eq_some_iff.mp ht).1
    have hfit := jk_fit_ok hf hv
    refine ⟨(jv_up h.1 a (.inl (ci2, fs.set k v)), h.2), ?_, jk_Ok_up hO ha hr ⟨rfl, jk_Vs_set hV ht hv⟩, jk_Fr_up ha h2 ⟨rfl, by simp, fun m hm => ?_⟩, ?_, fun b c m hb => ?_, fun b ty j => ?_⟩
    · unfold jv_pf
      rw [h2]
      exact if_pos ⟨rfl, hk, hfit.1, hfit.2⟩
    · exact List.getElem?_set_ne (fun e => by rw [← e, hp] at hm; cases hm)
    · unfold jv_gf jv_up
      simp only [if_true]
      exact List.getElem?_set_self hk
    · unfold jv_gf jv_up
      simp only
      by_cases e : b = a
      · subst e
        rw [if_pos rfl, h2]
        simp only
        rw [List.getElem?_set_ne (fun e => hb ⟨rfl, e.symm⟩)]
      · rw [if_neg e]
    · unfold jv_al jv_up
      simp only
      by_cases e : b = a
      · subst e
        rw [if_pos rfl, h2]
      · rw [if_neg e]
  · exact h3.elim
theorem jh_ld {a q kd lo : Nat} {t : jk_T} {ty : FieldType} {x : Int32} (hO : jk_Ok RT ρ h) (ha : ρ a = some q) (hr : RT[q]? = some (.inr (kd, lo, t))) (hty : jt_at[kd]? = some ty) (h0 : 0 ≤ x.toInt) (h1 : x.toInt < (lo : Int)) : ∃ v, jv_al h a ty x = some v ∧ jk_V ρ t v := by
  obtain ⟨d, c, g1, g2, g3⟩ := hO a q ha
  rw [hr] at g1
  cases g1
  rcases c with ⟨ci2, fs⟩ | ⟨kd2, n, f⟩
  · exact g3.elim
  · obtain ⟨rfl, hlo, hle, hf⟩ := g3
    have hi := jk_idx (n := n) (lo := lo) (j := (x.toInt, x.toInt)) (x := x) h0 h1 ⟨Int.le_refl _, Int.le_refl _⟩ hlo
    refine ⟨f x.toNatClampNeg, ?_, hf _⟩
    unfold jv_al
    rw [g2]
    exact if_pos ⟨hty, hi⟩
theorem jh_st {a q kd lo : Nat} {t : jk_T} {ty : FieldType} {x : Int32} {v : Value} (hO : jk_Ok RT ρ h) (ha : ρ a = some q) (hr : RT[q]? = some (.inr (kd, lo, t))) (hty : jt_at[kd]? = some ty) (hs : ¬ kd = jt_scr) (h0 : 0 ≤ x.toInt) (h1 : x.toInt < (lo : Int)) (hv : jk_V ρ t v) (hp : pr q 0 = false) : ∃ h', jv_as h a ty x v = some h' ∧ jk_Ok RT ρ h' ∧ jk_Fr pr ρ h h' ∧ ∀ b c m, jv_gf h' b c m = jv_gf h b c m := by
  obtain ⟨d, c, g1, g2, g3⟩ := hO a q ha
  rw [hr] at g1
  cases g1
  rcases c with ⟨ci2, fs⟩ | ⟨kd2, n, f⟩
  · exact g3.elim
  · obtain ⟨rfl, hlo, hle, hf⟩ := g3
    have hi := jk_idx (n := n) (lo := lo) (j := (x.toInt, x.toInt)) (x := x) h0 h1 ⟨Int.le_refl _, Int.le_refl _⟩ hlo
    refine ⟨(jv_up h.1 a (.inr (kd2, n, updV f x.toNatClampNeg v)), h.2), ?_, jk_Ok_up hO ha hr ⟨rfl, hlo, hle, fun i => ?_⟩, jk_Fr_up ha g2 ⟨rfl, rfl, fun z => ?_⟩, fun b c m => ?_⟩
    · unfold jv_as
      rw [g2]
      exact if_pos ⟨hs, hty, hi⟩
    · unfold updV
      split
      · exact hv
      · exact hf i
    · rw [hp] at z
      cases z
    · unfold jv_gf jv_up
      simp only
      by_cases e : b = a
      · subst e
        rw [if_pos rfl, g2]
      · rw [if_neg e]
theorem jh_kn {a q kd lo : Nat} {t : jk_T} {C : String} (hO : jk_Ok RT ρ h) (ha : ρ a = some q) (hr : RT[q]? = some (.inr (kd, lo, t))) (hty : jt_at[kd]? = some (.object C)) (hs : ¬ kd = jt_scr) : jv_kn h a = some C := by
  obtain ⟨d, c, g1, g2, g3⟩ := hO a q ha
  rw [hr] at g1
  cases g1
  rcases c with ⟨ci2, fs⟩ | ⟨kd2, n, f⟩
  · exact g3.elim
  · obtain ⟨rfl, _⟩ := g3
    exact jk_kn_ok ⟨n, f, g2⟩ hs hty
theorem jh_cl {a q ci : Nat} {ts : List jk_T} (hO : jk_Ok RT ρ h) (ha : ρ a = some q) (hr : RT[q]? = some (.inl (ci, ts))) : jv_cl h a = some ci := by
  obtain ⟨d, c, g1, g2, g3⟩ := hO a q ha
  rw [hr] at g1
  cases g1
  rcases c with ⟨ci2, fs⟩ | ⟨kd2, n, f⟩
  · obtain ⟨rfl, _⟩ := g3
    unfold jv_cl
    rw [g2]
  · exact g3.elim
theorem jh_ref {q : Nat} {v : Value} (hv : jk_V ρ (.inr (.inr (q, true))) v) : ∃ a, v = .ref a ∧ ρ a = some q := by
  rcases hv with ⟨e, _⟩ | hv
  · cases e
  · exact hv
theorem jh_rfn {q : Nat} {v : Value} (hv : jk_V ρ (.inr (.inr (q, false))) v) : ∃ r, v = va_rf r ∧ ∀ a, r = some a → ρ a = some q := by
  rcases hv with ⟨_, rfl⟩ | ⟨a, rfl, ha⟩
  · exact ⟨none, rfl, fun a e => by cases e⟩
  · exact ⟨some a, rfl, fun b e => by cases e; exact ha⟩
theorem jh_rfV {q : Nat} {r : Option Nat} (hr : ∀ a, r = some a → ρ a = some q) : jk_V ρ (.inr (.inr (q, false))) (va_rf r) := by
  cases r with
  | none => exact Or.inl ⟨rfl, rfl⟩
  | some a => exact Or.inr ⟨a, rfl, hr a rfl⟩
theorem jh_0 : (0 : Int32).toInt = 0 := by decide
theorem jh_lt0 {x : Int32} : x < 0 ↔ x.toInt < 0 := by rw [Int32.lt_iff_toInt_lt, jh_0]
theorem jh_leN {x : Int32} {n : Nat} (hn : n < 2 ^ 31) : nI n ≤ x ↔ (n : Int) ≤ x.toInt := by rw [Int32.le_iff_toInt_le, nI_toInt hn]
theorem jh_ltN {x : Int32} {n : Nat} (hn : n < 2 ^ 31) : x < nI n ↔ x.toInt < (n : Int) := by rw [Int32.lt_iff_toInt_lt, nI_toInt hn]
theorem jh_add1 {x : Int32} (h1 : x.toInt < 2147483647) : (x + nI 1).toInt = x.toInt + 1 := by
  rw [Int32.toInt_add, nI_toInt (by decide)]
  have := x.le_toInt
  exact Int.bmod_eq_of_le (by omega) (by omega)
theorem jh_sub1 {x : Int32} (h1 : -2147483648 < x.toInt) : (x - nI 1).toInt = x.toInt - 1 := by
  rw [Int32.toInt_sub, nI_toInt (by decide)]
  have := x.toInt_lt
  exact Int.bmod_eq_of_le (by omega) (by omega)
/-- what a method by hand gives -/
def jh_G (rt : Option jk_T) (ρ : jk_R) (h : jv_H) (o : Option jv_Z) : Prop := jk_Gd jc_RT jc_pr rt ρ h o
theorem jh_sp1 {y d q : Nat} {rt : Option jk_T} (hs : jc_sg y = some ([.inr (.inr (q, true))], rt)) (H : ∀ (ρ : jk_R) (h : jv_H) (a : Nat), jk_Ok jc_RT ρ h → ρ a = some q → jk_Gd jc_RT jc_pr rt ρ h (jv_run d y [.ref a] h)) : jk_Sp jc_RT jc_pr jc_sg (jv_run d) y := by
  intro ats rt' e ρ h as hO hV
  rw [hs] at e
  cases e
  rcases as with _ | ⟨v, _ | ⟨w, as⟩⟩
  · exact hV.elim
  · obtain ⟨a, rfl, ha⟩ := jh_ref hV.1
    exact H ρ h a hO ha
  · exact hV.2.elim
theorem jh_sp2 {y d q : Nat} {t : jk_T} {rt : Option jk_T} (hs : jc_sg y = some ([.inr (.inr (q, true)), t], rt)) (H : ∀ (ρ : jk_R) (h : jv_H) (a : Nat) (v : Value), jk_Ok jc_RT ρ h → ρ a = some q → jk_V ρ t v → jk_Gd jc_RT jc_pr rt ρ h (jv_run d y [.ref a, v] h)) : jk_Sp jc_RT jc_pr jc_sg (jv_run d) y := by
  intro ats rt' e ρ h as hO hV
  rw [hs] at e
  cases e
  rcases as with _ | ⟨v, _ | ⟨w, _ | ⟨u, as⟩⟩⟩
  · exact hV.elim
  · exact hV.2.elim
  · obtain ⟨a, rfl, ha⟩ := jh_ref hV.1
    exact H ρ h a w hO ha hV.2.1
  · exact hV.2.2.elim
theorem jh_sp3 {y d q : Nat} {t u : jk_T} {rt : Option jk_T} (hs : jc_sg y = some ([.inr (.inr (q, true)), t, u], rt)) (H : ∀ (ρ : jk_R) (h : jv_H) (a : Nat) (v w : Value), jk_Ok jc_RT ρ h → ρ a = some q → jk_V ρ t v → jk_V ρ u w → jk_Gd jc_RT jc_pr rt ρ h (jv_run d y [.ref a, v, w] h)) : jk_Sp jc_RT jc_pr jc_sg (jv_run d) y := by
  intro ats rt' e ρ h as hO hV
  rw [hs] at e
  cases e
  rcases as with _ | ⟨v, _ | ⟨w, _ | ⟨u', _ | ⟨u2, as⟩⟩⟩⟩
  · exact hV.elim
  · exact hV.2.elim
  · exact hV.2.2.elim
  · obtain ⟨a, rfl, ha⟩ := jh_ref hV.1
    exact H ρ h a w u' hO ha hV.2.1 hV.2.2.1
  · exact hV.2.2.2.elim
theorem jh_same {rt : Option jk_T} {r : Option Value} (hO : jk_Ok jc_RT ρ h) (hr : jk_Rt ρ rt r) : jk_Gd jc_RT jc_pr rt ρ h (some (r, h)) := ⟨r, h, rfl, hO, jk_Fr_rf h, hr⟩
/-! isInStore, and what asks it first -/
theorem jh_inStore {d : Nat} {a : Int32} : jv_run (d + 1) 91 [.int a] h = some (some (.int (if a < 0 then nI 0 else if nI 1024 ≤ a then nI 0 else nI 1)), h) := by
  rw [N91]
  simp (disch := first | omega | exact id rfl | exact jd_i | exact jd_r | exact jd_n | exact jd_f | decide) only [E91_0, E91_1, E91_4, E91_5, E91_8, E91_11, E91_12, E91_15, E91_16]
  by_cases h1 : a < 0
  · simp only [h1, if_true]
  · by_cases h2 : nI 1024 ≤ a
    · simp only [h1, h2, if_true, if_false]
    · simp only [h1, h2, if_false]
theorem jc_s95 (d : Nat) : jk_Sp jc_RT jc_pr jc_sg (jv_run (d + 2)) 95 := jh_sp2 (q := 4) (t := jk_top) rfl fun ρ h a v hO ha hv => by
  obtain ⟨x, rfl, _⟩ := hv
  obtain ⟨w, e1, hw⟩ := jh_get (k := 6) hO ha rfl rfl
  obtain ⟨b, rfl, hb⟩ := jh_ref hw
  rw [N95]
  by_cases h1 : x < 0
  · simp (disch := first | omega | exact id rfl | exact jd_i | exact jd_r | exact jd_n | exact jd_f | decide | (simp (disch := omega) only [jh_inStore, h1, e1, Option.isSome_some])) only [jh_inStore, h1, e1, Option.isSome_some, Option.getD_some, Option.toList_some, Option.toList_none, List.cons_append, List.nil_append, E95_0, E95_1, E95_4, E95_7, E95_8, E95_11, E95_12, E95_14, E95_15, E95_16, E95_19, E95_20, E95_20n, E95_20r, if_true, if_false]
    exact jh_same hO (Or.inl ⟨rfl, rfl⟩)
  · by_cases h2 : nI 1024 ≤ x
    · simp (disch := first | omega | exact id rfl | exact jd_i | exact jd_r | exact jd_n | exact jd_f | decide | (simp (disch := omega) only [jh_inStore, h1, h2, e1, Option.isSome_some])) only [jh_inStore, h1, h2, e1, Option.isSome_some, Option.getD_some, Option.toList_some, Option.toList_none, List.cons_append, List.nil_append, E95_0, E95_1, E95_4, E95_7, E95_8, E95_11, E95_12, E95_14, E95_15, E95_16, E95_19, E95_20, E95_20n, E95_20r, if_true, if_false]
      exact jh_same hO (Or.inl ⟨rfl, rfl⟩)
    · obtain ⟨k, hk, rfl⟩ := nI_of h1
      rw [nI_leI (by decide) hk] at h2
      have e2 : nI k / nI 16 = nI (k / 16) := pk_div hk (by decide) (by decide)
      have ht : (nI (k / 16)).toInt = ((k / 16 : Nat) : Int) := nI_toInt (by omega)
      obtain ⟨u, e3, hu⟩ := jh_ld (x := nI (k / 16)) hO hb (q := 14) (kd := 3) rfl rfl (by rw [ht]; omega) (by rw [ht]; omega)
      have e4 := jh_kn hO hb (q := 14) (kd := 3) rfl rfl (by decide)
      obtain ⟨r, rfl, hr⟩ := jh_rfn hu
      have h3 : ¬ nI 1024 ≤ nI k := by rw [nI_leI (by decide) hk]; exact h2
      simp (disch := first | omega | exact id rfl | exact jd_i | exact jd_r | exact jd_n | exact jd_f | decide | (simp (disch := omega) only [jh_inStore, h1, h3, e1, e2, e3, e4, Option.isSome_some])) only [jh_inStore, h1, h3, e1, e2, e3, e4, Option.isSome_some, Option.getD_some, Option.toList_some, Option.toList_none, List.cons_append, List.nil_append, E95_0, E95_1, E95_4, E95_7, E95_8, E95_11, E95_12, E95_14, E95_15, E95_16, E95_19, E95_20, E95_20n, E95_20r, if_true, if_false]
      exact jh_same hO (jh_rfV hr)
theorem jc_s97 (d : Nat) : jk_Sp jc_RT jc_pr jc_sg (jv_run (d + 2)) 97 := jh_sp2 (q := 4) (t := jk_top) rfl fun ρ h a v hO ha hv => by
  obtain ⟨x, rfl, _⟩ := hv
  obtain ⟨w, e1, hw⟩ := jh_get (k := 5) hO ha rfl rfl
  obtain ⟨b, rfl, hb⟩ := jh_ref hw
  rw [N97]
  by_cases h1 : x < 0
  · simp (disch := first | omega | exact id rfl | exact jd_i | exact jd_r | exact jd_n | exact jd_f | decide | (simp (disch := omega) only [jh_inStore, h1, e1, Option.isSome_some])) only [jh_inStore, h1, e1, Option.isSome_some, Option.getD_some, Option.toList_some, Option.toList_none, List.cons_append, List.nil_append, E97_0, E97_1, E97_4, E97_7, E97_8, E97_11, E97_12, E97_13, E97_16, E97_17, if_true, if_false]
    exact jh_same hO ⟨_, rfl⟩
  · by_cases h2 : nI 1024 ≤ x
    · simp (disch := first | omega | exact id rfl | exact jd_i | exact jd_r | exact jd_n | exact jd_f | decide | (simp (disch := omega) only [jh_inStore, h1, h2, e1, Option.isSome_some])) only [jh_inStore, h1, h2, e1, Option.isSome_some, Option.getD_some, Option.toList_some, Option.toList_none, List.cons_append, List.nil_append, E97_0, E97_1, E97_4, E97_7, E97_8, E97_11, E97_12, E97_13, E97_16, E97_17, if_true, if_false]
      exact jh_same hO ⟨_, rfl⟩
    · have h3 : ¬ (1024 : Int) ≤ x.toInt := fun q => h2 ((jh_leN (by decide)).mpr q)
      have h4 : ¬ x.toInt < 0 := fun q => h1 (jh_lt0.mpr q)
      obtain ⟨u, e3, hu⟩ := jh_ld (x := x) hO hb (q := 13) (kd := 1) rfl rfl (by omega) (by omega)
      obtain ⟨y, rfl⟩ := hu
      simp (disch := first | omega | exact id rfl | exact jd_i | exact jd_r | exact jd_n | exact jd_f | decide | (simp (disch := omega) only [jh_inStore, h1, h2, e1, e3, Option.isSome_some])) only [jh_inStore, h1, h2, e1, e3, Option.isSome_some, Option.getD_some, Option.toList_some, Option.toList_none, List.cons_append, List.nil_append, E97_0, E97_1, E97_4, E97_7, E97_8, E97_11, E97_12, E97_13, E97_16, E97_17, if_true, if_false]
      exact jh_same hO ⟨_, rfl⟩
theorem jc_s98 (d : Nat) : jk_Sp jc_RT jc_pr jc_sg (jv_run (d + 2)) 98 := jh_sp3 (q := 4) (t := jk_top) (u := jk_lg) rfl fun ρ h a v w hO ha hv hw' => by
  obtain ⟨x, rfl, _⟩ := hv
  obtain ⟨y, rfl⟩ := hw'
  obtain ⟨w, e1, hw⟩ := jh_get (k := 5) hO ha rfl rfl
  obtain ⟨b, rfl, hb⟩ := jh_ref hw
  rw [N98]
  by_cases h1 : x < 0
  · simp (disch := first | omega | exact id rfl | exact jd_i | exact jd_r | exact jd_n | exact jd_f | decide | (simp (disch := omega) only [jh_inStore, h1, e1, Option.isSome_some])) only [jh_inStore, h1, e1, Option.isSome_some, Option.getD_some, Option.toList_some, Option.toList_none, List.cons_append, List.nil_append, E98_0, E98_1, E98_4, E98_7, E98_8, E98_11, E98_12, E98_13, E98_14, if_true, if_false]
    exact jh_same hO True.intro
  · by_cases h2 : nI 1024 ≤ x
    · simp (disch := first | omega | exact id rfl | exact jd_i | exact jd_r | exact jd_n | exact jd_f | decide | (simp (disch := omega) only [jh_inStore, h1, h2, e1, Option.isSome_some])) only [jh_inStore, h1, h2, e1, Option.isSome_some, Option.getD_some, Option.toList_some, Option.toList_none, List.cons_append, List.nil_append, E98_0, E98_1, E98_4, E98_7, E98_8, E98_11, E98_12, E98_13, E98_14, if_true, if_false]
      exact jh_same hO True.intro
    · have h3 : ¬ (1024 : Int) ≤ x.toInt := fun q => h2 ((jh_leN (by decide)).mpr q)
      have h4 : ¬ x.toInt < 0 := fun q => h1 (jh_lt0.mpr q)
      obtain ⟨h', e3, hO', hF, _⟩ := jh_st (pr := jc_pr) (x := x) (v := .long y) hO hb (q := 13) (kd := 1) rfl rfl (by decide) (by omega) (by omega) ⟨y, rfl⟩ rfl
      simp (disch := first | omega | exact id rfl | exact jd_i | exact jd_r | exact jd_n | exact jd_f | decide | (simp (disch := omega) only [jh_inStore, h1, h2, e1, e3, Option.isSome_some])) only [jh_inStore, h1, h2, e1, e3, Option.isSome_some, Option.getD_some, Option.toList_some, Option.toList_none, List.cons_append, List.nil_append, E98_0, E98_1, E98_4, E98_7, E98_8, E98_11, E98_12, E98_13, E98_14, if_true, if_false]
      exact ⟨_, _, rfl, hO', hF, True.intro⟩
/-! a job's readiness, its print, its tape, its numbers -/
theorem jc_s92 (d : Nat) : jk_Sp jc_RT jc_pr jc_sg (jv_run (d + 1)) 92 := jh_sp2 (q := 4) (t := .inl (0, 1)) rfl fun ρ h a v hO ha hv => by
  have hv0 := hv
  obtain ⟨x, rfl, x1, x2⟩ := hv
  obtain ⟨w, e1, hw⟩ := jh_get (k := 15) hO ha rfl rfl
  obtain ⟨y, rfl, _⟩ := hw
  obtain ⟨w, e2, hw⟩ := jh_get (k := 14) hO ha rfl rfl
  obtain ⟨r, rfl, hr⟩ := jh_rfn hw
  rw [N92]
  have b01 : ∀ z : Int32, z = nI 0 ∨ z = nI 1 → jk_V ρ (.inl (0, 1)) (.int z) := fun z hz => by
    rcases hz with rfl | rfl
    · exact ⟨_, rfl, by decide, by decide⟩
    · exact ⟨_, rfl, by decide, by decide⟩
  by_cases h1 : y = 0
  · cases r with
    | none =>
      simp (disch := first | omega | exact id rfl | exact jd_i | exact jd_r | exact jd_n | exact jd_f | decide | (simp (disch := omega) only [e1, e2, h1, Option.isSome_some])) only [e1, e2, h1, Option.isSome_some, Option.getD_some, Option.toList_some, Option.toList_none, List.cons_append, List.nil_append, E92_0, E92_1, E92_4, E92_9, E92_10, if_true, if_false]
      rw [E92_13r, if_pos rfl]
      simp (disch := first | omega | exact id rfl | exact jd_i | exact jd_r | exact jd_n | exact jd_f | decide | (simp (disch := omega) only [e1, Option.isSome_some])) only [e1, Option.isSome_some, Option.getD_some, Option.toList_some, Option.toList_none, List.cons_append, List.nil_append, E92_26, E92_27, E92_31]
      exact jh_same hO (b01 _ (Or.inr rfl))
    | some b =>
      obtain ⟨w, e3, hw⟩ := jh_get (k := 4) hO (hr b rfl) rfl rfl
      obtain ⟨z, rfl, _⟩ := hw
      by_cases h2 : z = 0
      · simp (disch := first | omega | exact id rfl | exact jd_i | exact jd_r | exact jd_n | exact jd_f | decide | (simp (disch := omega) only [e1, e2, e3, h1, h2, va_rf, Option.isSome_some])) only [e1, e2, e3, h1, h2, va_rf, Option.isSome_some, Option.getD_some, Option.toList_some, Option.toList_none, List.cons_append, List.nil_append, E92_0, E92_1, E92_4, E92_7, E92_8, E92_9, E92_10, E92_13, E92_13r, E92_16, E92_17, E92_20, E92_23, E92_26, E92_27, E92_30, E92_31, if_true, if_false]
        exact jh_same hO (b01 _ (Or.inr rfl))
      · simp (disch := first | omega | exact id rfl | exact jd_i | exact jd_r | exact jd_n | exact jd_f | decide | (simp (disch := omega) only [e1, e2, e3, h1, h2, va_rf, Option.isSome_some])) only [e1, e2, e3, h1, h2, va_rf, Option.isSome_some, Option.getD_some, Option.toList_some, Option.toList_none, List.cons_append, List.nil_append, E92_0, E92_1, E92_4, E92_7, E92_8, E92_9, E92_10, E92_13, E92_13r, E92_16, E92_17, E92_20, E92_23, E92_26, E92_27, E92_30, E92_31, if_true, if_false]
        exact jh_same hO (b01 _ (Or.inl rfl))
  · have hx : narrow .boolean (.int x) = .int x ∧ fits .boolean (.int x) = true := jk_fit_ok (t := .inl (0, 1)) rfl hv0
    simp (disch := first | omega | exact id rfl | exact jd_i | exact jd_r | exact jd_n | exact jd_f | decide | (simp (disch := omega) only [e1, e2, h1, hx.1, hx.2, Option.isSome_some])) only [e1, e2, h1, hx.1, hx.2, Option.isSome_some, Option.getD_some, Option.toList_some, Option.toList_none, List.cons_append, List.nil_append, E92_0, E92_1, E92_4, E92_7, E92_8, E92_9, E92_10, E92_13, E92_13r, E92_16, E92_17, E92_20, E92_23, E92_26, E92_27, E92_30, E92_31, if_true, if_false]
    exact jh_same hO hv0
end JH
