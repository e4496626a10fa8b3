/-! blocks are made and forgotten -/
section JG
variable {ρ : jk_R} {h h' : jv_H} {d : Nat}
/-- a field is written: all that can be said of it -/
theorem jg_put {a q ci k : Nat} {ts : List jk_T} {t : jk_T} {v : Value} (hO : jk_Ok jc_RT ρ h) (ha : ρ a = some q) (hr : jc_RT[q]? = some (.inl (ci, ts))) (ht : ts[k]? = some t) (hv : jk_V ρ t v) (hf : jk_fit (jt_fty ci k) t = true) : ∃ h', jv_pf h a ci k v = some h' ∧ jk_Ok jc_RT ρ h' ∧ h'.2 = h.2 ∧ (∀ b, ρ b = none → h'.1 b = h.1 b) ∧ jv_gf h' a ci k = some v ∧ (∀ b c m, ¬ (b = a ∧ c = ci ∧ m = k) → jv_gf h' b c m = jv_gf h b c m) ∧ ∀ b ty j, jv_al h' b ty j = jv_al h b ty j := by
  obtain ⟨d, c, h1, h2, h3⟩ := hO a q ha
  rw [hr] at h1
  cases h1
  rcases c with ⟨ci2, fs⟩ | ⟨kd, n, f⟩
  · obtain ⟨rfl, hV⟩ := h3
    have hk : k < fs.length := by rw [jk_Vs_len hV]; exact (List.getElem?_eq_some_iff.mp ht).1
    have hfit := jk_fit_ok hf hv
    refine ⟨(jv_up h.1 a (.inl (ci2, fs.set k v)), h.2), ?_, jk_Ok_up hO ha hr ⟨rfl, jk_Vs_set hV ht hv⟩, rfl, fun b hb => ?_, ?_, fun b c m hb => ?_, fun b ty j => ?_⟩
    · unfold jv_pf
      rw [h2]
      exact if_pos ⟨rfl, hk, hfit.1, hfit.2⟩
    · exact if_neg (fun e => by rw [e, ha] at hb; cases hb)
    · unfold jv_gf jv_up
      simp only [if_true]
      exact List.getElem?_set_self hk
    · unfold jv_gf jv_up
      simp only
      by_cases e : b = a
      · subst e
        rw [if_pos rfl, h2]
        simp only
        by_cases e2 : ci2 = c
        · rw [if_pos e2, if_pos e2, List.getElem?_set_ne (fun e => hb ⟨rfl, e2.symm, e.symm⟩)]
        · rw [if_neg e2, if_neg e2]
      · rw [if_neg e]
    · unfold jv_al jv_up
      simp only
      by_cases e : b = a
      · subst e
        rw [if_pos rfl, h2]
      · rw [if_neg e]
  · exact h3.elim
/-- what J looks at -/
def jg_key (c k : Nat) : Prop := (c = 6 ∧ (k = 4 ∨ k = 3)) ∨ (c = 4 ∧ (k = 6 ∨ k = 12)) ∨ (c = 1 ∧ k = 0)
theorem jg_Bc {a k : Nat} (hg : ∀ b c m, jg_key c m → jv_gf h' b c m = jv_gf h b c m) (ha : ∀ b ty j, jv_al h' b ty j = jv_al h b ty j) : jg_B h' a k = jg_B h a k := by
  unfold jg_B
  rw [hg a 4 6 (Or.inr (Or.inl ⟨rfl, Or.inl rfl⟩))]
  split
  · exact ha _ _ _
  · rfl
theorem jg_Ec {a : Nat} (hg : ∀ b c m, jg_key c m → jv_gf h' b c m = jv_gf h b c m) : jg_E h' a ↔ jg_E h a := by
  unfold jg_E
  rw [hg a 4 12 (Or.inr (Or.inl ⟨rfl, Or.inr rfl⟩))]
theorem jg_Jc {x n m0 : Nat} {js c : Nat → Nat} (hg : ∀ b c m, jg_key c m → jv_gf h' b c m = jv_gf h b c m) (ha : ∀ b ty j, jv_al h' b ty j = jv_al h b ty j) (hJ : jg_J ρ h x n m0 js c) : jg_J ρ h' x n m0 js c := by
  obtain ⟨h1, h2, h3, h4, h5, h6, h7⟩ := hJ
  have k43 := fun b => hg b 6 4 (Or.inl ⟨rfl, Or.inl rfl⟩)
  have k63 := fun b => hg b 6 3 (Or.inl ⟨rfl, Or.inr rfl⟩)
  have k46 := fun b => hg b 4 6 (Or.inr (Or.inl ⟨rfl, Or.inl rfl⟩))
  have k10 := fun b => hg b 1 0 (Or.inr (Or.inr ⟨rfl, rfl⟩))
  refine ⟨h1, by rw [k43]; exact h2, fun i hi => ?_, h4, h5, fun a b p pa pb e e' => h6 a b p pa pb (by rw [← k46]; exact e) (by rw [← k46]; exact e'), fun a k b pa hk e => ?_⟩
  · obtain ⟨a1, a2, a3, a4⟩ := h3 i hi
    refine ⟨a1, ?_, a3, fun e => ?_⟩
    · intro hm
      have a2 := a2 hm
      unfold jg_R
      rw [k63]
      unfold jg_R at a2
      split at a2
      · rw [ha]
        exact a2
      · cases a2
    · have : jg_nn h' (js i) = jg_nn h (js i) := by
        unfold jg_nn
        congr 1
        funext k
        rw [jg_Bc hg ha]
      rw [this]
      exact a4 ((jg_Ec hg).mp e)
  · rw [jg_Bc hg ha] at e
    rw [k10]
    exact h7 a k b pa hk e
/-- a place of a job's row is written -/
theorem jg_set {a k : Nat} {r : Option Nat} (hO : jk_Ok jc_RT ρ h) (ha : ρ a = some 4) (hk : k < 64) (hr : ∀ b, r = some b → ρ b = some 5) : ∃ h', jv_run (d + 1) 96 [.ref a, .int (nI k), va_rf r] h = some (none, h') ∧ jk_Ok jc_RT ρ h' ∧ h'.2 = h.2 ∧ (∀ b, ρ b = none → h'.1 b = h.1 b) ∧ (∀ b c m, jv_gf h' b c m = jv_gf h b c m) ∧ jg_B h' a k = some (va_rf r) ∧ (∀ m, m < 64 → ¬ m = k → jg_B h' a m = jg_B h a m) ∧ (∀ p ty j, ¬ jv_gf h a 4 6 = some (.ref p) → jv_al h' p ty j = jv_al h p ty j) := by
  obtain ⟨p, e1, hp⟩ := jg_ref (k := 6) hO ha rfl rfl
  have hkn := jh_kn hO hp (q := 14) (kd := 3) rfl rfl (by decide)
  have hA := jh_isA hO hr
  obtain ⟨dd, c, g1, g2, g3⟩ := hO p 14 hp
  cases g1
  rcases c with ⟨ci2, fs⟩ | ⟨kd2, n, f⟩
  · exact g3.elim
  · obtain ⟨rfl, hlo, hle, hf⟩ := g3
    have e2 : jv_as h p (.object RX0) (nI k) (va_rf r) = some (jv_up h.1 p (.inr (3, n, updV f k (va_rf r))), h.2) := jv_as_of g2 (by decide) rfl (by omega) (by omega)
    have hal : ∀ m, m < 64 → jv_al h p (.object RX0) (nI m) = some (f m) := fun m hm => jv_al_of g2 rfl (by omega) (by omega)
    have hgf : ∀ b c m, jv_gf (jv_up h.1 p (.inr (3, n, updV f k (va_rf r))), h.2) b c m = jv_gf h b c m := fun b c m => by
      unfold jv_gf jv_up
      simp only
      by_cases e : b = p
      · subst e
        rw [if_pos rfl, g2]
      · rw [if_neg e]
    have hal' : ∀ m, m < 64 → jv_al (jv_up h.1 p (.inr (3, n, updV f k (va_rf r))), h.2) p (.object RX0) (nI m) = some (updV f k (va_rf r) m) := fun m hm => jv_al_of (if_pos rfl) rfl (by omega) (by omega)
    refine ⟨(jv_up h.1 p (.inr (3, n, updV f k (va_rf r))), h.2), ?_, jk_Ok_up hO hp rfl ⟨rfl, hlo, hle, fun i => ?_⟩, rfl, fun b hb => if_neg (fun e => by rw [e, hp] at hb; cases hb), hgf, ?_, fun m hm hmk => ?_, fun p' ty j hp' => ?_⟩
    · have b1 : ¬ nI k < 0 := nI_pos (by omega)
      have b2 : ¬ nI 64 ≤ nI k := by rw [nI_leI (by decide) (by omega)]; omega
      rw [N96]
      simp (disch := first | omega | exact id rfl | exact jd_i | exact jd_r | exact jd_n | exact jd_f | decide | (simp (disch := omega) only [e1, e2, hkn, hA, b1, b2, Option.isSome_some])) only [e1, e2, hkn, hA, b1, b2, Option.isSome_some, Option.getD_some, Option.toList_some, Option.toList_none, List.cons_append, List.nil_append, E96_0, E96_1, E96_4, E96_5, E96_7, E96_10, E96_11, E96_14, E96_15, E96_15r, E96_16, E96_17, if_false]
    · unfold updV
      split
      · exact jh_rfV hr
      · exact hf i
    · unfold jg_B
      rw [hgf, e1]
      simp only
      rw [hal' k hk]
      unfold updV
      rw [if_pos rfl]
    · unfold jg_B
      rw [hgf, e1]
      simp only
      rw [hal' m hm, hal m hm]
      unfold updV
      rw [if_neg hmk]
    · have hne : ¬ p' = p := fun e => hp' (by rw [e]; exact e1)
      unfold jv_al jv_up
      simp only
      rw [if_neg hne]
theorem jg_set_out {a : Nat} {x : Int32} {r : Option Nat} (hx : x < 0 ∨ nI 64 ≤ x) : jv_run (d + 1) 96 [.ref a, .int x, va_rf r] h = some (none, h) := by
  rw [N96]
  by_cases h1 : x < 0
  · simp (disch := first | omega | exact id rfl | exact jd_i | exact jd_r | exact jd_n | exact jd_f | decide | (simp (disch := omega) only [h1, Option.isSome_some])) only [h1, Option.isSome_some, Option.getD_some, Option.toList_some, Option.toList_none, List.cons_append, List.nil_append, E96_0, E96_1, E96_4, E96_5, E96_7, E96_10, E96_11, E96_14, E96_15, E96_15r, E96_16, E96_17, if_true]
  · have h2 : nI 64 ≤ x := by
      rcases hx with q | q
      · exact absurd q h1
      · exact q
    simp (disch := first | omega | exact id rfl | exact jd_i | exact jd_r | exact jd_n | exact jd_f | decide | (simp (disch := omega) only [h1, h2, Option.isSome_some])) only [h1, h2, Option.isSome_some, Option.getD_some, Option.toList_some, Option.toList_none, List.cons_append, List.nil_append, E96_0, E96_1, E96_4, E96_5, E96_7, E96_10, E96_11, E96_14, E96_15, E96_15r, E96_16, E96_17, if_true, if_false]
theorem jg_nn_set {a k : Nat} {r : Option Nat} (hk : k < 64) (hB : jg_B h' a k = some (va_rf r)) (hB2 : ∀ m, m < 64 → ¬ m = k → jg_B h' a m = jg_B h a m) : ∀ N, N ≤ 64 → jz_cnt (fun m => jg_nb (jg_B h' a m)) N = jz_cnt (va_up (fun m => jg_nb (jg_B h a m)) k (jg_nb (some (va_rf r)))) N
  | 0, _ => rfl
  | N + 1, hN => by
    have ih := jg_nn_set hk hB hB2 N (by omega)
    unfold jz_cnt
    rw [ih]
    by_cases e : N = k
    · subst e
      rw [jz_us]
      simp only [hB]
    · rw [jz_un e, hB2 N (by omega) e]
end JG
