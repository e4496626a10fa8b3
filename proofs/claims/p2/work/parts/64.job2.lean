/-! the method job -/
section JG
variable {ρ : jk_R} {h h' : jv_H} {d b0 s0 x : Nat}
theorem jo_empty {tr : Nat} {e0 : Nat} (hI : jg_I e0 b0 s0 ρ h x) (ht : ρ tr = some 1) : ∃ h', jv_run (d + 1) 121 [.ref tr] h = some (none, h') ∧ jg_G e0 b0 s0 ρ h x ρ h' ∧ (∀ b c m, ¬ c = 5 → jv_gf h' b c m = jv_gf h b c m) ∧ ∀ b ty j, jv_al h' b ty j = jv_al h b ty j := by
  obtain ⟨h1, f1, hO1, hz1, hn1, _, hg1, ha1⟩ := jg_put (k := 2) (v := .int (nI 0)) hI.1 ht rfl rfl ⟨_, rfl, by decide, by decide⟩ rfl
  have G1 := jg_G_put hI hO1 hz1 hn1 hg1 ha1 (by simp [jg_key]) (by simp)
  obtain ⟨h2, f2, hO2, hz2, hn2, _, hg2, ha2⟩ := jg_put (k := 3) (v := .int (nI 0)) hO1 ht rfl rfl ⟨_, rfl, by decide, by decide⟩ rfl
  refine ⟨h2, ?_, jg_G_tr G1 (jg_G_put G1.1 hO2 hz2 hn2 hg2 ha2 (by simp [jg_key]) (by simp)), fun b c m hc => ?_, fun b ty j => by rw [ha2, ha1]⟩
  · rw [N121]
    simp (disch := first | omega | exact id rfl | exact jd_i | exact jd_r | exact jd_n | exact jd_f | decide | (simp (disch := omega) only [f1, f2, Option.isSome_some])) only [f1, f2, Option.isSome_some, Option.getD_some, Option.toList_some, Option.toList_none, List.cons_append, List.nil_append, E121_0, E121_1, E121_2, E121_5, E121_6, E121_7, E121_10]
  · rw [hg2 b c m (fun q => hc q.2.1), hg1 b c m (fun q => hc q.2.1)]
theorem jg_Rc (hg : ∀ b c m, ¬ c = 5 → jv_gf h' b c m = jv_gf h b c m) (ha : ∀ b ty j, jv_al h' b ty j = jv_al h b ty j) (m : Nat) : jg_R h' x m = jg_R h x m := by
  unfold jg_R
  rw [hg x 6 3 (by decide)]
  split
  · exact ha _ _ _
  · rfl
/-- the program's blocks -/
theorem jo_loop {a : Nat} {li w : Int32} {nb : Nat} (hnb : nb ≤ 64) : ∀ (t k : Nat), k + t = nb → ∀ (ρ : jk_R) (h : jv_H), jg_I 1 b0 s0 ρ h x → jg_A ρ h → ρ a = some 4 → jg_E h a → (∀ m, k ≤ m → m < 64 → jg_B h a m = some .null) → (∀ i, i < 12 → ¬ jg_R h x i = some (.ref a)) → ∃ ρ' h', jv_ev (jv_run (d + 2)) 126 91 [some (.ref x), some (.int li), some (.int w), some (.int (nI nb)), some (.ref a), some (.int (nI k))] [] h = jv_ev (jv_run (d + 2)) 126 118 [some (.ref x), some (.int li), some (.int w), some (.int (nI nb)), some (.ref a), some (.int (nI nb))] [] h' ∧ jg_I 1 b0 s0 ρ' h' x ∧ jg_A ρ' h' ∧ jg_X ρ h ρ' h' ∧ ρ' a = some 4 ∧ (∀ i, i < 12 → ¬ jg_R h' x i = some (.ref a))
  | 0, k, hk, ρ, h, hI, hA, ha, hE, hB, hR => by
    have e : k = nb := by omega
    subst e
    refine ⟨ρ, h, ?_, hI, hA, jg_X_rf, ha, hR⟩
    have b1 : nI k ≤ nI k := by rw [nI_leI (by omega) (by omega)]; exact Nat.le_refl _
    simp (disch := first | omega | exact id rfl | exact jd_i | exact jd_r | exact jd_n | exact jd_f | decide | (simp (disch := omega) only [b1, Option.isSome_some])) only [b1, Option.isSome_some, Option.getD_some, Option.toList_some, Option.toList_none, List.cons_append, List.nil_append, E126_91, E126_93, E126_94, if_true]
  | t + 1, k, hk, ρ, h, hI, hA, ha, hE, hB, hR => by
    have b1 : ¬ nI nb ≤ nI k := by rw [nI_leI (by omega) (by omega)]; omega
    have hx := hI.2.1
    obtain ⟨dr, e1, hdr⟩ := jg_ref (k := 2) hI.1 hx rfl rfl
    have hclx := jh_cl hI.1 hx (q := 0) rfl
    obtain ⟨h1, f1, G1, hO1, hB1, hR1⟩ := jg_create (d := d) hI ha hE (k := k) (by omega) (hB k (Nat.le_refl _) (by omega))
    have hdr1 := G1.2.1.1 dr 3 hdr
    have ha1 := G1.2.1.1 a 4 ha
    have hcld := jh_cl hO1 hdr1 (q := 3) rfl
    obtain ⟨h2, f2, G2⟩ : ∃ h2, jv_run (d + 2) 78 [.ref dr, .ref h.2.1] h1 = some (none, h2) ∧ (jg_G 1 b0 s0 (va_up ρ h.2.1 (some 5)) h1 x (va_up ρ h.2.1 (some 5)) h2 ∧ (∀ m, jg_B h2 a m = jg_B h1 a m) ∧ ∀ m, jg_R h2 x m = jg_R h1 x m) := by
      obtain ⟨r, h2, f, hO2, hF, hR⟩ := jc_s78 d _ _ rfl (va_up ρ h.2.1 (some 5)) h1 [.ref dr, .ref h.2.1] hO1 ⟨jg_vr hdr1, jg_vr jz_us, True.intro⟩
      cases r with
      | some v => exact hR.elim
      | none => exact ⟨h2, f, jg_G_fr G1.1 hO2 hF, fun m => jg_Bk hO1 hF ha1, fun m => jg_Rk hO1 hF G1.1.2.1⟩
    obtain ⟨G2, hB2, hR2⟩ := G2
    have G := jg_G_tr G1 G2
    obtain ⟨ρ', h', e', I', A', X', a', R'⟩ := jo_loop hnb t (k + 1) (by omega) (va_up ρ h.2.1 (some 5)) h2 G.1 (G.2.2.2.2 hA) ha1 ((G.2.2.2.1 a ha).mpr hE) (fun m h1 h2 => by rw [hB2, hB1 m h2 (by omega)]; exact hB m (by omega) h2) (fun i hi => by rw [hR2, hR1]; exact hR i hi)
    refine ⟨ρ', h', ?_, I', A', jg_X_tr G.2.1 X', a', R'⟩
    rw [← e', E126_91]
    simp (disch := first | omega | exact id rfl | exact jd_i | exact jd_r | exact jd_n | exact jd_f | decide | (simp (disch := omega) only [b1, e1, f1, f2, hclx, hcld, nI_add, Option.isSome_some])) only [b1, e1, f1, f2, hclx, hcld, nI_add, Option.isSome_some, Option.getD_some, Option.toList_some, Option.toList_none, List.cons_append, List.nil_append, E126_93, E126_94, E126_97, E126_98, E126_101, E126_102, E126_104, E126_106, E126_109, E126_112, E126_115, if_false]
end JG
