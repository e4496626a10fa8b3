/-! find, activate -/
section JG
variable {ρ : jk_R} {h h' : jv_H} {d b0 s0 x : Nat}
theorem jg_find {n i : Nat} {js c : Nat → Nat} (hO : jk_Ok jc_RT ρ h) (hx : ρ x = some 0) (hJ : jg_J ρ h x n n js c) (hi : i < n) : jv_run (d + 1) 139 [.ref x, .int (nI i)] h = some (some (.ref (js i)), h) := by
  have h1 := hJ.1
  have e1 := hJ.2.1
  obtain ⟨_, a2, _⟩ := hJ.2.2.1 i hi
  have a2 := a2 hi
  obtain ⟨p, e2, hp⟩ := jg_ref (k := 3) hO hx rfl rfl
  unfold jg_R at a2
  rw [e2] at a2
  simp only at a2
  have hk := jh_kn hO hp (q := 11) (kd := 4) rfl rfl (by decide)
  have b1 : ¬ nI i < 0 := nI_pos (by omega)
  have b2 : ¬ nI n ≤ nI i := by rw [nI_leI (by omega) (by omega)]; omega
  have b3 : ¬ nI 12 ≤ nI i := by rw [nI_leI (by decide) (by omega)]; omega
  rw [N139]
  simp (disch := first | omega | exact id rfl | exact jd_i | exact jd_r | exact jd_n | exact jd_f | decide | (simp (disch := omega) only [e1, e2, a2, hk, b1, b2, b3, Option.isSome_some])) only [e1, e2, a2, hk, b1, b2, b3, Option.isSome_some, Option.getD_some, Option.toList_some, Option.toList_none, List.cons_append, List.nil_append, E139_0, E139_1, E139_4, E139_5, E139_6, E139_9, E139_12, E139_13, E139_15, E139_18, E139_19, E139_22, E139_23, E139_24, E139_27, E139_28, E139_28n, E139_28r, if_false]
theorem jg_find_m : jv_run (d + 1) 139 [.ref x, .int (-1)] h = some (some .null, h) := by
  have b1 : (-1 : Int32) < 0 := by decide
  rw [N139]
  simp (disch := first | omega | exact id rfl | exact jd_i | exact jd_r | exact jd_n | exact jd_f | decide | (simp (disch := omega) only [b1, Option.isSome_some])) only [b1, Option.isSome_some, Option.getD_some, Option.toList_some, Option.toList_none, List.cons_append, List.nil_append, E139_0, E139_1, E139_4, E139_5, E139_6, E139_9, E139_12, E139_13, E139_15, E139_18, E139_19, E139_22, E139_23, E139_24, E139_27, E139_28, E139_28n, E139_28r, if_true]
/-- the same without what is said of who is active -/
def jg_W (e0 b0 s0 : Nat) (ρ : jk_R) (h : jv_H) (x : Nat) (ρ' : jk_R) (h' : jv_H) : Prop := jg_I e0 b0 s0 ρ' h' x ∧ jg_X ρ h ρ' h' ∧ (∀ a, ρ' a = some 4 → ρ a = some 4) ∧ (∀ a, ρ a = some 4 → (jg_E h' a ↔ jg_E h a))
theorem jg_W_tr {ρ1 ρ2 ρ3 : jk_R} {h1 h2 h3 : jv_H} (a : jg_W 0 b0 s0 ρ1 h1 x ρ2 h2) (b : jg_W 0 b0 s0 ρ2 h2 x ρ3 h3) : jg_W 0 b0 s0 ρ1 h1 x ρ3 h3 := ⟨b.1, jg_X_tr a.2.1 b.2.1, fun q hq => a.2.2.1 q (b.2.2.1 q hq), fun q hq => (b.2.2.2 q (a.2.1.1 q 4 hq)).trans (a.2.2.2 q hq)⟩
theorem jg_W_G {ρ' : jk_R} (a : jg_G 0 b0 s0 ρ h x ρ' h') : jg_W 0 b0 s0 ρ h x ρ' h' := ⟨a.1, a.2.1, a.2.2.1, a.2.2.2.1⟩
theorem jg_W_rf (hI : jg_I 0 b0 s0 ρ h x) : jg_W 0 b0 s0 ρ h x ρ h := jg_W_G (jg_G_rf hI)
theorem jg_W_put {a ci k : Nat} (hI : jg_I 0 b0 s0 ρ h x) (hO' : jk_Ok jc_RT ρ h') (hz : h'.2 = h.2) (hn : ∀ b, ρ b = none → h'.1 b = h.1 b) (hg : ∀ b c m, ¬ (b = a ∧ c = ci ∧ m = k) → jv_gf h' b c m = jv_gf h b c m) (ha : ∀ b ty j, jv_al h' b ty j = jv_al h b ty j) (hk : ¬ jg_key ci k) : jg_W 0 b0 s0 ρ h x ρ h' := by
  obtain ⟨hO, hx, hf, n, js, c, hJ, r1, r2⟩ := hI
  have hg' : ∀ b c m, jg_key c m → jv_gf h' b c m = jv_gf h b c m := fun b c m hm => hg b c m (fun q => hk (by rw [← q.2.1, ← q.2.2]; exact hm))
  exact ⟨⟨hO', hx, by rw [hz]; exact hf, n, js, c, jg_Jc hg' ha hJ, by rw [hz]; exact r1, by rw [hz]; exact r2⟩, ⟨fun _ _ e => e, fun b _ e => ⟨e, hn b e⟩, by rw [hz]; exact Nat.le_refl _⟩, fun _ e => e, fun b hb => jg_Ec hg'⟩
theorem jg_act_l {n : Nat} {js c : Nat → Nat} (hx : ρ x = some 0) : ∀ (t i : Nat), i + t = n → ∀ (h : jv_H) (l : Int32) (r : Option Nat), jg_I 0 b0 s0 ρ h x → jg_J ρ h x n n js c → (∀ j, j < i → ¬ jv_gf h (js j) 4 13 = some (.int 0) → jg_E h (js j)) → ∃ h', jv_ev (jv_run (d + 1)) 140 10 [some (.ref x), some (.int l), some (.int (nI i)), r.map Value.ref] [] h = some (none, h') ∧ jg_W 0 b0 s0 ρ h x ρ h' ∧ jg_J ρ h' x n n js c ∧ jg_A ρ h'
  | 0, i, hi, h, l, r, hI, hJ, hA => by
    have e : i = n := by omega
    subst e
    have h1 := hJ.1
    have e1 := hJ.2.1
    refine ⟨h, ?_, jg_W_rf hI, hJ, fun a ha e => ?_⟩
    · have b1 : nI i ≤ nI i := by rw [nI_leI (by omega) (by omega)]; exact Nat.le_refl _
      simp (disch := first | omega | exact id rfl | exact jd_i | exact jd_r | exact jd_n | exact jd_f | decide | (simp (disch := omega) only [e1, b1, Option.isSome_some])) only [e1, b1, Option.isSome_some, Option.getD_some, Option.toList_some, Option.toList_none, List.cons_append, List.nil_append, E140_10, E140_11, E140_12, E140_15, E140_69, if_true]
    · obtain ⟨j, hj, rfl⟩ := hJ.2.2.2.2.1 a ha
      exact hA j hj e
  | t + 1, i, hi, h, l, r, hI, hJ, hA => by
    have h1 := hJ.1
    have e1 := hJ.2.1
    have hO := hI.1
    have hin : i < n := by omega
    have f1 := jg_find (d := d) hO hx hJ hin
    obtain ⟨a1, _⟩ := hJ.2.2.1 i hin
    have hclx := jh_cl hO hx (q := 0) rfl
    obtain ⟨w, e2, hw⟩ := jh_get (k := 12) hO a1 rfl rfl
    obtain ⟨en, rfl, _⟩ := hw
    have b1 : ¬ nI n ≤ nI i := by rw [nI_leI (by omega) (by omega)]; omega
    have v01 : ∀ v : Int32, v = nI 0 ∨ v = nI 1 → jk_V ρ (.inl (0, 1)) (.int v) := fun v hv => by
      rcases hv with rfl | rfl
      · exact ⟨_, rfl, by decide, by decide⟩
      · exact ⟨_, rfl, by decide, by decide⟩
    /- behind the put -/
    have step : ∀ v : Int32, (v = nI 0 ∨ v = nI 1 ∧ en = 0) → ∃ h', jv_ev (jv_run (d + 1)) 140 45 [some (.ref x), some (.int l), some (.int (nI i)), some (.ref (js i))] [.int v, .ref (js i)] h = some (none, h') ∧ jg_W 0 b0 s0 ρ h x ρ h' ∧ jg_J ρ h' x n n js c ∧ jg_A ρ h' := fun v hv => by
      obtain ⟨h2, f2, hO2, hz2, hn2, hat, hg2, ha2⟩ := jg_put (k := 13) (v := .int v) hO a1 rfl rfl (v01 v (by rcases hv with q | q; exact Or.inl q; exact Or.inr q.1)) rfl
      have W2 := jg_W_put hI hO2 hz2 hn2 hg2 ha2 (by simp [jg_key])
      have hJ2 : jg_J ρ h2 x n n js c := jg_Jc (fun b c m hm => hg2 b c m (fun q => by rcases hm with ⟨y, _⟩ | ⟨_, y⟩ | ⟨y, _⟩ <;> omega)) ha2 hJ
      have hA2 : ∀ j, j < i + 1 → ¬ jv_gf h2 (js j) 4 13 = some (.int 0) → jg_E h2 (js j) := fun j hj e => by
        have hjn : j < n := by omega
        by_cases y : j = i
        · subst y
          rcases hv with q | ⟨_, q⟩
          · exact absurd (by rw [hat, q]; rfl) e
          · unfold jg_E
            rw [hg2 _ _ _ (by simp), e2, q]
        · have hne : ¬ js j = js i := fun q => y (hJ.2.2.2.1 j i hjn hin q)
          rw [hg2 _ _ _ (fun q => hne q.1)] at e
          have := hA j (by omega) e
          unfold jg_E at this ⊢
          rw [hg2 _ _ _ (fun q => hne q.1)]
          exact this
      have go : ∀ l' : Int32, ∃ h', jv_ev (jv_run (d + 1)) 140 63 [some (.ref x), some (.int l'), some (.int (nI i)), some (.ref (js i))] [] h2 = some (none, h') ∧ jg_W 0 b0 s0 ρ h x ρ h' ∧ jg_J ρ h' x n n js c ∧ jg_A ρ h' := fun l' => by
        obtain ⟨h', e', W', J', A'⟩ := jg_act_l hx t (i + 1) (by omega) h2 l' (some (js i)) W2.1 hJ2 hA2
        refine ⟨h', ?_, jg_W_tr W2 W', J', A'⟩
        rw [← e']
        simp (disch := first | omega | exact id rfl | exact jd_i | exact jd_r | exact jd_n | exact jd_f | decide | (simp (disch := omega) only [nI_add, Option.isSome_some])) only [nI_add, Option.isSome_some, Option.getD_some, Option.toList_some, Option.toList_none, List.cons_append, List.nil_append, E140_63, E140_66]
        rfl
      by_cases hv0 : v = 0
      · obtain ⟨h', e', r'⟩ := go (l - nI 0)
        refine ⟨h', ?_, r'⟩
        rw [← e']
        subst hv0
        simp (disch := first | omega | exact id rfl | exact jd_i | exact jd_r | exact jd_n | exact jd_f | decide | (simp (disch := omega) only [f2, hat, Option.isSome_some])) only [f2, hat, Option.isSome_some, Option.getD_some, Option.toList_some, Option.toList_none, List.cons_append, List.nil_append, E140_45, E140_48, E140_49, E140_50, E140_53, E140_60, E140_61, E140_62, if_true]
      · obtain ⟨h', e', r'⟩ := go (l - nI 1)
        refine ⟨h', ?_, r'⟩
        rw [← e']
        simp (disch := first | omega | exact id rfl | exact jd_i | exact jd_r | exact jd_n | exact jd_f | decide | (simp (disch := omega) only [f2, hat, hv0, Option.isSome_some])) only [f2, hat, hv0, Option.isSome_some, Option.getD_some, Option.toList_some, Option.toList_none, List.cons_append, List.nil_append, E140_45, E140_48, E140_49, E140_50, E140_53, E140_56, E140_57, E140_61, E140_62, if_false]
    have r2 : ¬ jv_is2 (some (some (Value.int (nI i)))) = true := jd_i
    by_cases h3 : en = 0
    · by_cases h4 : l ≤ 0
      · obtain ⟨h', e', r'⟩ := step (nI 0) (Or.inl rfl)
        refine ⟨h', ?_, r'⟩
        rw [← e', E140_10]
        simp (disch := first | omega | exact id rfl | exact jd_i | exact jd_r | exact jd_n | exact jd_f | decide | (simp (disch := omega) only [e1, e2, f1, b1, h3, h4, hclx, Option.isSome_some])) only [e1, e2, f1, b1, h3, h4, hclx, Option.isSome_some, Option.getD_some, Option.toList_some, Option.toList_none, List.cons_append, List.nil_append, E140_11, E140_12, E140_15, E140_18, E140_19, E140_20, E140_23, E140_24, E140_25, E140_28, E140_29, E140_30, E140_33, E140_36, E140_37, E140_44, if_true, if_false, not_true_eq_false]
      · obtain ⟨h', e', r'⟩ := step (nI 1) (Or.inr ⟨rfl, h3⟩)
        refine ⟨h', ?_, r'⟩
        rw [← e', E140_10]
        simp (disch := first | omega | exact id rfl | exact jd_i | exact jd_r | exact jd_n | exact jd_f | decide | (simp (disch := omega) only [e1, e2, f1, b1, h3, h4, hclx, Option.isSome_some])) only [e1, e2, f1, b1, h3, h4, hclx, Option.isSome_some, Option.getD_some, Option.toList_some, Option.toList_none, List.cons_append, List.nil_append, E140_11, E140_12, E140_15, E140_18, E140_19, E140_20, E140_23, E140_24, E140_25, E140_28, E140_29, E140_30, E140_33, E140_36, E140_37, E140_40, E140_41, if_true, if_false, not_true_eq_false]
    · obtain ⟨h', e', r'⟩ := step (nI 0) (Or.inl rfl)
      refine ⟨h', ?_, r'⟩
      rw [← e', E140_10]
      simp (disch := first | omega | exact id rfl | exact jd_i | exact jd_r | exact jd_n | exact jd_f | decide | (simp (disch := omega) only [e1, e2, f1, b1, h3, hclx, Option.isSome_some])) only [e1, e2, f1, b1, h3, hclx, Option.isSome_some, Option.getD_some, Option.toList_some, Option.toList_none, List.cons_append, List.nil_append, E140_11, E140_12, E140_15, E140_18, E140_19, E140_20, E140_23, E140_24, E140_25, E140_28, E140_29, E140_30, E140_33, E140_44, if_true, if_false, not_false_eq_true]
theorem jg_activate (hI : jg_I 0 b0 s0 ρ h x) : ∃ h', jv_run (d + 2) 140 [.ref x] h = some (none, h') ∧ jg_W 0 b0 s0 ρ h x ρ h' ∧ jg_A ρ h' := by
  have hI' := hI
  obtain ⟨hO, hx, _⟩ := hI'
  obtain ⟨co, e1, hco⟩ := jg_ref (k := 1) hO hx rfl rfl
  have hcl1 := jh_cl hO hco (q := 2) rfl
  obtain ⟨r1, h1, f1, hO1, hF1, hR1⟩ := jc_s68 d _ _ rfl ρ h [.ref co] hO ⟨Or.inr ⟨co, rfl, hco⟩, True.intro⟩
  cases r1 with
  | none => exact hR1.elim
  | some v =>
    obtain ⟨l, rfl, _⟩ := hR1
    have G1 := jg_G_fr hI hO1 hF1
    have hI1 := G1.1
    obtain ⟨_, _, hf, n, js, c, hJ, r1, r2⟩ := hI1
    obtain ⟨h', e', W', J', A'⟩ := jg_act_l (d := d) hx n 0 (by omega) h1 l none G1.1 hJ (fun j hj => by omega)
    refine ⟨h', ?_, jg_W_tr (jg_W_G G1) W', A'⟩
    rw [← e', N140]
    simp (disch := first | omega | exact id rfl | exact jd_i | exact jd_r | exact jd_n | exact jd_f | decide | (simp (disch := omega) only [e1, f1, hcl1, Option.isSome_some])) only [e1, f1, hcl1, Option.isSome_some, Option.getD_some, Option.toList_some, Option.toList_none, List.cons_append, List.nil_append, E140_0, E140_1, E140_4, E140_7, E140_8, E140_9]
    rfl
end JG
