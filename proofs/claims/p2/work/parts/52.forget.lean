/-! forget and createBlock -/
section JG
variable {ρ : jk_R} {h h' : jv_H} {d e0 b0 s0 x : Nat}
/-- a block's place in the row of a job that has ended is emptied -/
theorem jg_Jf {n m0 k a : Nat} {js c : Nat → Nat} {r : Option Nat} (hO : jk_Ok jc_RT ρ h) (ha : ρ a = some 4) (hk : k < 64) (hg : ∀ b c m, jv_gf h' b c m = jv_gf h b c m) (hB : jg_B h' a k = some (va_rf r)) (hB2 : ∀ m, m < 64 → ¬ m = k → jg_B h' a m = jg_B h a m) (hal : ∀ p ty j, ¬ jv_gf h a 4 6 = some (.ref p) → jv_al h' p ty j = jv_al h p ty j) (hx : ρ x = some 0) (hJ : jg_J ρ h x n m0 js c) (hown : ∀ b, r = some b → jv_gf h b 1 0 = some (.ref a)) (c' : Nat → Nat) (hc : ∀ i, i < n → c' i ≤ 64 ∧ (js i = a → jg_E h a → c' i ≤ jg_nn h' a) ∧ (¬ js i = a → c' i = c i)) : jg_J ρ h' x n m0 js c' := by
  obtain ⟨h1, h2, h3, h4, h5, h6, h7⟩ := hJ
  have hE : ∀ b, jg_E h' b ↔ jg_E h b := fun b => by unfold jg_E; rw [hg]
  have hB3 : ∀ b m, ρ b = some 4 → ¬ b = a → jg_B h' b m = jg_B h b m := fun b m hb hne => by
    obtain ⟨p, e, hp⟩ := jg_ref (k := 6) hO hb rfl rfl
    unfold jg_B
    rw [hg, e]
    simp only
    exact hal p _ _ (fun e' => hne (h6 b a p hb ha e e'))
  refine ⟨h1, by rw [hg]; exact h2, fun i hi => ?_, h4, h5, fun a' b p pa pb e e' => h6 a' b p pa pb (by rw [← hg]; exact e) (by rw [← hg]; exact e'), fun a' m b pa hm e => ?_⟩
  · obtain ⟨a1, a2, a3, a4⟩ := h3 i hi
    obtain ⟨c1, c2, c3⟩ := hc i hi
    refine ⟨a1, ?_, c1, fun e => ?_⟩
    · intro hm
      have a2 := a2 hm
      obtain ⟨p, e, hp⟩ := jg_ref (k := 3) hO hx rfl rfl
      unfold jg_R
      unfold jg_R at a2
      rw [hg, e]
      rw [e] at a2
      simp only at a2 ⊢
      rw [hal p _ _ (fun e' => ?_)]
      · exact a2
      · obtain ⟨p', e2, hp'⟩ := jg_ref (k := 6) hO ha rfl rfl
        rw [e2] at e'
        cases e'
        rw [hp] at hp'
        cases hp'
    · by_cases q : js i = a
      · rw [q] at e ⊢
        exact c2 q ((hE a).mp e)
      · rw [c3 q]
        have : jg_nn h' (js i) = jg_nn h (js i) := by
          unfold jg_nn
          congr 1
          funext m
          rw [hB3 (js i) m a1 q]
        rw [this]
        exact a4 ((hE _).mp e)
  · rw [hg]
    by_cases q : a' = a
    · subst q
      by_cases q2 : m = k
      · subst q2
        rw [hB] at e
        cases r with
        | none => cases e
        | some b' =>
          cases e
          exact hown b rfl
      · rw [hB2 m hm q2] at e
        exact h7 a' m b pa hm e
    · rw [hB3 a' m pa q] at e
      exact h7 a' m b pa hm e
/-- what a method of the machine gives that makes no job: the ends stay -/
def jg_G (e0 b0 s0 : Nat) (ρ : jk_R) (h : jv_H) (x : Nat) (ρ' : jk_R) (h' : jv_H) : Prop := jg_I e0 b0 s0 ρ' h' x ∧ jg_X ρ h ρ' h' ∧ (∀ a, ρ' a = some 4 → ρ a = some 4) ∧ (∀ a, ρ a = some 4 → (jg_E h' a ↔ jg_E h a)) ∧ (jg_A ρ h → jg_A ρ' h')
theorem jg_G_tr {ρ1 ρ2 ρ3 : jk_R} {h1 h2 h3 : jv_H} (a : jg_G e0 b0 s0 ρ1 h1 x ρ2 h2) (b : jg_G e0 b0 s0 ρ2 h2 x ρ3 h3) : jg_G e0 b0 s0 ρ1 h1 x ρ3 h3 := ⟨b.1, jg_X_tr a.2.1 b.2.1, fun q hq => a.2.2.1 q (b.2.2.1 q hq), fun q hq => (b.2.2.2.1 q (a.2.1.1 q 4 hq)).trans (a.2.2.2.1 q hq), fun hA => b.2.2.2.2 (a.2.2.2.2 hA)⟩
theorem jg_G_rf (hI : jg_I e0 b0 s0 ρ h x) : jg_G e0 b0 s0 ρ h x ρ h := ⟨hI, jg_X_rf, fun _ e => e, fun _ _ => Iff.rfl, fun hA => hA⟩
theorem jg_G_fr (hI : jg_I e0 b0 s0 ρ h x) (hO' : jk_Ok jc_RT ρ h') (hF : jk_Fr jc_pr ρ h h') : jg_G e0 b0 s0 ρ h x ρ h' := ⟨jg_Ik hI hO' hF, jg_X_fr hF, fun _ e => e, fun a ha => jg_Ek hI.1 hF ha, fun hA => jg_Ak hI.1 hF hA⟩
/-- a field that J doesn't look at is written -/
theorem jg_G_put {a ci k : Nat} (hI : jg_I e0 b0 s0 ρ h x) (hO' : jk_Ok jc_RT ρ h') (hz : h'.2 = h.2) (hn : ∀ b, ρ b = none → h'.1 b = h.1 b) (hg : ∀ b c m, ¬ (b = a ∧ c = ci ∧ m = k) → jv_gf h' b c m = jv_gf h b c m) (ha : ∀ b ty j, jv_al h' b ty j = jv_al h b ty j) (hk : ¬ jg_key ci k) (hk2 : ¬ (ci = 4 ∧ k = 13)) : jg_G e0 b0 s0 ρ h x ρ h' := by
  obtain ⟨hO, hx, hf, n, js, c, hJ, r1, r2⟩ := hI
  have hg' : ∀ b c m, jg_key c m → jv_gf h' b c m = jv_gf h b c m := fun b c m hm => hg b c m (fun q => hk (by rw [← q.2.1, ← q.2.2]; exact hm))
  refine ⟨⟨hO', hx, by rw [hz]; exact hf, n, js, c, jg_Jc hg' ha hJ, by rw [hz]; exact r1, by rw [hz]; exact r2⟩, ⟨fun _ _ e => e, fun b _ e => ⟨e, hn b e⟩, by rw [hz]; exact Nat.le_refl _⟩, fun _ e => e, fun b hb => jg_Ec hg', fun hA b hb e => ?_⟩
  rw [hg b 4 13 (fun q => hk2 ⟨q.2.1.symm, q.2.2.symm⟩)] at e
  exact (jg_Ec hg').mpr (hA b hb e)
theorem jg_forget {b a : Nat} (hI : jg_I e0 b0 s0 ρ h x) (hb : ρ b = some 5) (hown : jv_gf h b 1 0 = some (.ref a)) (hE : ¬ jg_E h a) : ∃ h', jv_run (d + 2) 152 [.ref x, .ref b] h = some (none, h') ∧ jg_G e0 b0 s0 ρ h x ρ h' := by
  have hI' := hI
  obtain ⟨hO, hx, _⟩ := hI'
  obtain ⟨co, e1, hco⟩ := jg_ref (k := 1) hO hx rfl rfl
  have hcl1 := jh_cl hO hco (q := 2) rfl
  obtain ⟨r1, h1, f1, hO1, hF1, hR1⟩ := jc_s72 d _ _ rfl ρ h [.ref co, .ref b] hO ⟨Or.inr ⟨co, rfl, hco⟩, Or.inr ⟨b, rfl, hb⟩, True.intro⟩
  cases r1 with
  | some v => exact hR1.elim
  | none =>
    have G1 := jg_G_fr hI hO1 hF1
    obtain ⟨dr, e2, hdr⟩ := jg_ref (k := 2) hO1 hx rfl rfl
    have hcl2 := jh_cl hO1 hdr (q := 3) rfl
    obtain ⟨r2, h2, f2, hO2, hF2, hR2⟩ := jc_s80 d _ _ rfl ρ h1 [.ref dr, .ref b] hO1 ⟨Or.inr ⟨dr, rfl, hdr⟩, Or.inr ⟨b, rfl, hb⟩, True.intro⟩
    cases r2 with
    | some v => exact hR2.elim
    | none =>
      have G2 := jg_G_tr G1 (jg_G_fr G1.1 hO2 hF2)
      have e3 : jv_gf h2 b 1 0 = some (.ref a) := by
        rw [jg_kf (k := 0) hO1 hF2 hb rfl, jg_kf (k := 0) hO hF1 hb rfl]
        exact hown
      have ha : ρ a = some 4 := by
        obtain ⟨p, e, hp⟩ := jg_ref (k := 0) hO2 hb rfl rfl
        rw [e3] at e
        cases e
        exact hp
      have hE2 : ¬ jg_E h2 a := fun q => hE ((G2.2.2.2.1 a ha).mp q)
      have hcl3 := jh_cl hO2 ha (q := 4) rfl
      obtain ⟨w, e4, hw⟩ := jh_get (k := 1) hO2 hb rfl rfl
      obtain ⟨y, rfl, _⟩ := hw
      /- the row, then existing -/
      have tail : ∀ h3, jv_run (d + 1) 96 [.ref a, .int y, va_rf none] h2 = some (none, h3) → jg_G e0 b0 s0 ρ h2 x ρ h3 → ∃ h', jv_run (d + 2) 152 [.ref x, .ref b] h = some (none, h') ∧ jg_G e0 b0 s0 ρ h x ρ h' := fun h3 f3 G3 => by
        have hO3 := G3.1.1
        obtain ⟨w, e5, hw⟩ := jh_get (k := 6) hO3 hx rfl rfl
        obtain ⟨z, rfl, _⟩ := hw
        obtain ⟨h4, f4, hO4, hz4, hn4, _, hg4, ha4⟩ := jg_put (k := 6) (v := .int (z - nI 1)) hO3 hx rfl rfl jk_V_top rfl
        refine ⟨h4, ?_, jg_G_tr G2 (jg_G_tr G3 (jg_G_put G3.1 hO4 hz4 hn4 hg4 ha4 (by simp [jg_key]) (by simp)))⟩
        rw [show jv_run (d + 2) 152 [.ref x, .ref b] h = jv_ev (jv_run (d + 1)) 152 0 [some (.ref x), some (.ref b)] [] h from N152 (a0 := some b)]
        have f3' : jv_run (d + 1) 96 [.ref a, .int y, .null] h2 = some (none, h3) := f3
        simp (disch := first | omega | exact id rfl | exact jd_i | exact jd_r | exact jd_n | exact jd_f | decide | (simp (disch := omega) only [e1, e2, e3, e4, e5, f1, f2, f3', f4, hcl1, hcl2, hcl3, Option.isSome_some])) only [e1, e2, e3, e4, e5, f1, f2, f3', f4, hcl1, hcl2, hcl3, Option.isSome_some, Option.getD_some, Option.toList_some, Option.toList_none, List.cons_append, List.nil_append, E152_0, E152_1, E152_4, E152_4r, E152_5, E152_8, E152_9, E152_12, E152_12r, E152_13, E152_16, E152_16r, E152_17, E152_20, E152_20r, E152_21, E152_24, E152_25, E152_28, E152_29, E152_29i, E152_30, E152_33, E152_34, E152_35, E152_38]
      by_cases h3 : y < 0 ∨ nI 64 ≤ y
      · exact tail h2 (jg_set_out h3) (jg_G_rf G2.1)
      · have h4 : ¬ y < 0 := fun q => h3 (Or.inl q)
        obtain ⟨k, hk, rfl⟩ := nI_of h4
        have hk64 : k < 64 := by
          have : ¬ nI 64 ≤ nI k := fun q => h3 (Or.inr q)
          rw [nI_leI (by decide) hk] at this
          omega
        obtain ⟨h3', f3, hO3, hz3, hn3, hg3, hB, hB2, hal⟩ := jg_set (d := d) (r := none) hO2 ha hk64 (fun b e => by cases e)
        refine tail h3' f3 ?_
        obtain ⟨_, _, hf, n, js, c, hJ, r1, r2⟩ := G2.1
        refine ⟨⟨hO3, hx, by rw [hz3]; exact hf, n, js, c, jg_Jf hO2 ha hk64 hg3 hB hB2 hal hx hJ (fun b e => by cases e) c (fun i hi => ⟨(hJ.2.2.1 i hi).2.2.1, fun _ q => absurd q hE2, fun _ => rfl⟩), by rw [hz3]; exact r1, by rw [hz3]; exact r2⟩, ⟨fun _ _ e => e, fun b _ e => ⟨e, hn3 b e⟩, by rw [hz3]; exact Nat.le_refl _⟩, fun _ e => e, fun b hb => (by unfold jg_E; rw [hg3]), fun hA b hb e => ?_⟩
        rw [hg3] at e
        have := hA b hb e
        unfold jg_E at this ⊢
        rw [hg3]
        exact this
end JG
