/-! the method job, its end -/
section JG
variable {ρ : jk_R} {h h' : jv_H} {d b0 s0 x : Nat}
theorem jo_take {a : Nat} (hI : jg_I 1 b0 s0 ρ h x) (hA : jg_A ρ h) (ha : ρ a = some 4) (hR : ∀ i, i < 12 → ¬ jg_R h x i = some (.ref a)) : ∃ p n h1 h2, n < 12 ∧ jv_gf h x 6 3 = some (.ref p) ∧ jv_gf h x 6 4 = some (.int (nI n)) ∧ jv_kn h p = some RX3 ∧ jv_isA h RX3 (.ref a) = true ∧ jv_as h p (.object RX3) (nI n) (.ref a) = some h1 ∧ jv_gf h1 x 6 4 = some (.int (nI n)) ∧ jv_pf h1 x 6 4 (.int (nI n + nI 1)) = some h2 ∧ jg_I 0 b0 s0 ρ h2 x ∧ jg_A ρ h2 ∧ jg_X ρ h ρ h2 ∧ jv_gf h2 x 6 4 = some (.int (nI (n + 1))) := by
  obtain ⟨hO, hx, hf, n, js, c, hJ, r1, r2⟩ := hI
  obtain ⟨h1, h2, h3, h4, h5, h6, h7⟩ := hJ
  obtain ⟨p, e3, hp⟩ := jg_ref (k := 3) hO hx rfl rfl
  have hkn := jh_kn hO hp (q := 11) (kd := 4) rfl rfl (by decide)
  have hisA : jv_isA h RX3 (.ref a) = true := jk_isA_ok (RT := jc_RT) (t := .inr (.inr (4, false))) (by decide) (jg_vr ha) hO
  obtain ⟨i0, hi0, ei0⟩ := h5 a ha
  have hi : i0 = n := by
    by_cases q : i0 < n
    · exact absurd ((h3 i0 hi0).2.1 q) (by rw [ei0]; exact hR i0 (by omega))
    · omega
  subst hi
  obtain ⟨dd, cc, g1, g2, g3⟩ := hO p 11 hp
  cases g1
  rcases cc with ⟨ci2, fs⟩ | ⟨kd2, nn, f⟩
  · exact g3.elim
  · obtain ⟨rfl, hlo, hle, hff⟩ := g3
    have e4 : jv_as h p (.object RX3) (nI i0) (.ref a) = some (jv_up h.1 p (.inr (4, nn, updV f i0 (.ref a))), h.2) := jv_as_of g2 (by decide) rfl (by omega) (by omega)
    have gf1 : ∀ b c m, jv_gf (jv_up h.1 p (.inr (4, nn, updV f i0 (.ref a))), h.2) b c m = jv_gf h b c m := fun b c m => by
      unfold jv_gf jv_up
      simp only
      by_cases e : b = p
      · subst e
        rw [if_pos rfl, g2]
      · rw [if_neg e]
    have al1 : ∀ q ty j, ¬ q = p → jv_al (jv_up h.1 p (.inr (4, nn, updV f i0 (.ref a))), h.2) q ty j = jv_al h q ty j := fun q ty j hq => by
      unfold jv_al jv_up
      simp only
      rw [if_neg hq]
    have alp : ∀ m, m < 12 → jv_al (jv_up h.1 p (.inr (4, nn, updV f i0 (.ref a))), h.2) p (.object RX3) (nI m) = some (updV f i0 (.ref a) m) := fun m hm => jv_al_of (if_pos rfl) rfl (by omega) (by omega)
    have alo : ∀ m, m < 12 → jv_al h p (.object RX3) (nI m) = some (f m) := fun m hm => jv_al_of g2 rfl (by omega) (by omega)
    have hO1 : jk_Ok jc_RT ρ (jv_up h.1 p (.inr (4, nn, updV f i0 (.ref a))), h.2) := jk_Ok_up hO hp rfl ⟨rfl, hlo, hle, fun i => by
      unfold updV
      split
      · exact jg_vr ha
      · exact hff i⟩
    have et : (nI i0 + nI 1 : Int32) = nI (i0 + 1) := nI_add i0 1
    have et2 : (nI (i0 + 1)).toInt = ((i0 + 1 : Nat) : Int) := nI_toInt (by omega)
    obtain ⟨h2', f2, hO2, hz2, hn2, hat2, hg2, ha2⟩ := jg_put (k := 4) (v := .int (nI i0 + nI 1)) hO1 hx rfl rfl ⟨_, rfl, by rw [et, et2]; show (0 : Int) ≤ _; omega, by rw [et, et2]; show _ ≤ (12 : Int); omega⟩ rfl
    have gf : ∀ b c m, ¬ (c = 6 ∧ m = 4) → jv_gf h2' b c m = jv_gf h b c m := fun b c m hc => by rw [hg2 b c m (fun q => hc q.2), gf1]
    have hB : ∀ b m, ρ b = some 4 → jg_B h2' b m = jg_B h b m := fun b m hb => by
      obtain ⟨q, e, hq⟩ := jg_ref (k := 6) hO hb rfl rfl
      unfold jg_B
      rw [gf b 4 6 (by decide), e]
      simp only
      rw [ha2, al1 q _ _ (fun z => by rw [z, hp] at hq; cases hq)]
    have hRr : ∀ m, m < 12 → jg_R h2' x m = if m = i0 then some (.ref a) else jg_R h x m := fun m hm => by
      unfold jg_R
      rw [gf x 6 3 (by decide), e3]
      simp only
      rw [ha2, alp m hm, alo m hm]
      unfold updV
      split <;> rfl
    have hE : ∀ b, jg_E h2' b ↔ jg_E h b := fun b => by unfold jg_E; rw [gf b 4 12 (by decide)]
    refine ⟨p, i0, _, h2', by omega, e3, h2, hkn, hisA, e4, by rw [gf1]; exact h2, f2, ⟨hO2, hx, by rw [hz2]; exact hf, i0 + 1, js, c, ⟨h1, by rw [hat2, et], fun i hi => ?_, h4, h5, fun a' b p' pa pb e e' => h6 a' b p' pa pb (by rw [← gf a' 4 6 (by decide)]; exact e) (by rw [← gf b 4 6 (by decide)]; exact e'), fun a' k b pa hk e => ?_⟩, by rw [hz2]; exact r1, by rw [hz2]; exact r2⟩, fun b hb e => ?_, ⟨fun _ _ e => e, fun b _ e => ⟨e, ?_⟩, by rw [hz2]; exact Nat.le_refl _⟩, by rw [hat2, et]⟩
    · obtain ⟨a1, a2, a3, a4⟩ := h3 i hi
      refine ⟨a1, fun z => ?_, a3, fun e => ?_⟩
      · rw [hRr i (by omega)]
        by_cases q : i = i0
        · rw [if_pos q, q, ei0]
        · rw [if_neg q]
          exact a2 (by omega)
      · have : jg_nn h2' (js i) = jg_nn h (js i) := by
          unfold jg_nn
          congr 1
          funext k
          rw [hB (js i) k a1]
        rw [this]
        exact a4 ((hE _).mp e)
    · rw [hB a' k pa] at e
      rw [gf b 1 0 (by decide)]
      exact h7 a' k b pa hk e
    · rw [gf b 4 13 (by decide)] at e
      exact (hE b).mpr (hA b hb e)
    · rw [hn2 b e]
      exact if_neg (fun z => by rw [z, hp] at e; cases e)
/-- the machine's tray -/
def jo_tr (h : jv_H) (x : Nat) (w : Nat) : Prop := ∃ tr, jv_gf h x 6 0 = some (.ref tr) ∧ jv_gf h tr 5 2 = some (.int (nI w))
/-- refused -/
def jo_no (n w : Nat) (ex li k : Int32) : Prop := 12 ≤ n ∨ li < nI 1 ∨ nI 10000 < li ∨ k < nI 1 ∨ nI w < k ∨ nI 64 < ex + (k + nI 16 - nI 1) / nI 16
theorem jo_refuse {n w : Nat} {ex li k : Int32} (hn : n ≤ 12) (hw : w ≤ 1000) (e1 : jv_gf h x 6 4 = some (.int (nI n))) (et : jo_tr h x w) (e2 : jv_gf h x 6 6 = some (.int ex)) (hno : jo_no n w ex li k) : jv_run (d + 1) 126 [.ref x, .int li, .int k] h = some (some (.int (-1)), h) := by
  obtain ⟨tr, e3, e4⟩ := et
  rw [N126]
  by_cases c1 : nI 12 ≤ nI n
  · simp (disch := first | omega | exact id rfl | exact jd_i | exact jd_r | exact jd_n | exact jd_f | decide | (simp (disch := omega) only [e1, c1, Option.isSome_some])) only [e1, c1, Option.isSome_some, Option.getD_some, Option.toList_some, Option.toList_none, List.cons_append, List.nil_append, E126_0, E126_1, E126_4, E126_6, E126_37, E126_38, if_true]
  · by_cases c2 : li < nI 1
    · simp (disch := first | omega | exact id rfl | exact jd_i | exact jd_r | exact jd_n | exact jd_f | decide | (simp (disch := omega) only [e1, c1, c2, Option.isSome_some])) only [e1, c1, c2, Option.isSome_some, Option.getD_some, Option.toList_some, Option.toList_none, List.cons_append, List.nil_append, E126_0, E126_1, E126_4, E126_6, E126_9, E126_10, E126_11, E126_37, E126_38, if_true, if_false]
    · by_cases c3 : nI 10000 < li
      · simp (disch := first | omega | exact id rfl | exact jd_i | exact jd_r | exact jd_n | exact jd_f | decide | (simp (disch := omega) only [e1, c1, c2, c3, Option.isSome_some])) only [e1, c1, c2, c3, Option.isSome_some, Option.getD_some, Option.toList_some, Option.toList_none, List.cons_append, List.nil_append, E126_0, E126_1, E126_4, E126_6, E126_9, E126_10, E126_11, E126_14, E126_15, E126_18, E126_37, E126_38, if_true, if_false]
      · by_cases c4 : k < nI 1
        · simp (disch := first | omega | exact id rfl | exact jd_i | exact jd_r | exact jd_n | exact jd_f | decide | (simp (disch := omega) only [e1, c1, c2, c3, c4, Option.isSome_some])) only [e1, c1, c2, c3, c4, Option.isSome_some, Option.getD_some, Option.toList_some, Option.toList_none, List.cons_append, List.nil_append, E126_0, E126_1, E126_4, E126_6, E126_9, E126_10, E126_11, E126_14, E126_15, E126_18, E126_21, E126_22, E126_23, E126_37, E126_38, if_true, if_false]
        · by_cases c5 : k ≤ nI w
          · have c6 : ¬ ex + (k + nI 16 - nI 1) / nI 16 ≤ nI 64 := by
              rcases hno with q | q | q | q | q | q
              · exact absurd (by rw [nI_leI (by decide) (by omega)]; exact q) c1
              · exact absurd q c2
              · exact absurd q c3
              · exact absurd q c4
              · exact absurd c5 (Int32.not_le.mpr q)
              · exact Int32.not_le.mpr q
            have d16 : ¬ (nI 16 : Int32) = 0 := by decide
            simp (disch := first | omega | exact id rfl | exact jd_i | exact jd_r | exact jd_n | exact jd_f | decide | (simp (disch := omega) only [e1, e2, e3, e4, c1, c2, c3, c4, c5, c6, d16, Option.isSome_some])) only [e1, e2, e3, e4, c1, c2, c3, c4, c5, c6, d16, Option.isSome_some, Option.getD_some, Option.toList_some, Option.toList_none, List.cons_append, List.nil_append, E126_0, E126_1, E126_4, E126_6, E126_9, E126_10, E126_11, E126_14, E126_15, E126_18, E126_21, E126_22, E126_23, E126_26, E126_27, E126_28, E126_31, E126_34, E126_39, E126_40, E126_42, E126_43, E126_44, E126_45, E126_47, E126_48, E126_49, E126_50, E126_53, E126_54, E126_55, E126_57, E126_60, E126_61, if_true, if_false]
          · simp (disch := first | omega | exact id rfl | exact jd_i | exact jd_r | exact jd_n | exact jd_f | decide | (simp (disch := omega) only [e1, e3, e4, c1, c2, c3, c4, c5, Option.isSome_some])) only [e1, e3, e4, c1, c2, c3, c4, c5, Option.isSome_some, Option.getD_some, Option.toList_some, Option.toList_none, List.cons_append, List.nil_append, E126_0, E126_1, E126_4, E126_6, E126_9, E126_10, E126_11, E126_14, E126_15, E126_18, E126_21, E126_22, E126_23, E126_26, E126_27, E126_28, E126_31, E126_34, E126_37, E126_38, if_true, if_false]
theorem jo_accept {n w : Nat} {ex li k : Int32} (hI : jg_I 0 b0 s0 ρ h x) (hA : jg_A ρ h) (hn : n ≤ 12) (hw : w ≤ 1000) (e1 : jv_gf h x 6 4 = some (.int (nI n))) (et : jo_tr h x w) (e2 : jv_gf h x 6 6 = some (.int ex)) (hno : ¬ jo_no n w ex li k) : ∃ z ρ' h' m, jv_run (d + 3) 126 [.ref x, .int li, .int k] h = some (some (.int z), h') ∧ jg_I 0 b0 s0 ρ' h' x ∧ jg_A ρ' h' ∧ jg_X ρ h ρ' h' ∧ 1 ≤ m ∧ m ≤ 12 ∧ jv_gf h' x 6 4 = some (.int (nI m)) ∧ ∃ a, ρ' a = some 4 := by
  have hO := hI.1
  have hx := hI.2.1
  obtain ⟨tr, e3, e4⟩ := et
  have htr : ρ tr = some 1 := by
    obtain ⟨p, e, hp⟩ := jg_ref (k := 0) hO hx rfl rfl
    rw [e3] at e
    cases e
    exact hp
  have hn12 : n < 12 := Nat.lt_of_not_le fun q => hno (Or.inl q)
  have c1 : ¬ nI 12 ≤ nI n := by rw [nI_leI (by decide) (by omega)]; omega
  have c2 : ¬ li < nI 1 := fun q => hno (Or.inr (Or.inl q))
  have c3 : ¬ nI 10000 < li := fun q => hno (Or.inr (Or.inr (Or.inl q)))
  have c4 : ¬ k < nI 1 := fun q => hno (Or.inr (Or.inr (Or.inr (Or.inl q))))
  have c5 : k ≤ nI w := Int32.not_lt.mp fun q => hno (Or.inr (Or.inr (Or.inr (Or.inr (Or.inl q)))))
  have c6 : ex + (k + nI 16 - nI 1) / nI 16 ≤ nI 64 := Int32.not_lt.mp fun q => hno (Or.inr (Or.inr (Or.inr (Or.inr (Or.inr q)))))
  obtain ⟨kk, hkk, rfl⟩ := nI_of (x := k) (fun q => c4 (by
    rw [Int32.lt_iff_toInt_lt] at q ⊢
    have : (nI 1).toInt = 1 := by decide
    rw [jh_0] at q
    omega))
  have hk1 : 1 ≤ kk := by
    rw [nI_ltI hkk (by decide)] at c4
    omega
  have hkw : kk ≤ w := (nI_leI hkk (by omega)).mp c5
  have eb : (nI kk + nI 16 - nI 1) / nI 16 = nI ((kk + 15) / 16) := by
    rw [nI_add, pk_sub (by omega), pk_div (by omega) (by decide) (by decide)]
    rfl
  have hnb : (kk + 15) / 16 ≤ 64 := by omega
  have d16 : ¬ (nI 16 : Int32) = 0 := by decide
  have lt : ∀ a r, ρ a = some r → a < h.2.1 := fun a r e => Nat.lt_of_not_le (fun q => by rw [hI.2.2.1 a q] at e; cases e)
  /- up to the new object -/
  have s1 : jv_run (d + 3) 126 [.ref x, .int li, .int (nI kk)] h = jv_ev (jv_run (d + 2)) 126 76 [some (.ref x), some (.int li), some (.int (nI kk)), some (.int (nI ((kk + 15) / 16))), none, none] [.int (nI kk), .ref tr, .int li, .int (nI n), .ref h.2.1, .ref h.2.1] (jv_new h 4) := by
    have g1 : jv_gf (jv_new h 4) x 6 4 = some (.int (nI n)) := by
      rw [jg_newU]
      exact (ju_gfo (z := h.2) (lt x 0 hx)).trans e1
    have g2 : jv_gf (jv_new h 4) x 6 0 = some (.ref tr) := by
      rw [jg_newU]
      exact (ju_gfo (z := h.2) (lt x 0 hx)).trans e3
    have c6' : ex + nI ((kk + 15) / 16) ≤ nI 64 := by rw [← eb]; exact c6
    rw [N126]
    simp (disch := first | omega | exact id rfl | exact jd_i | exact jd_r | exact jd_n | exact jd_f | decide | (simp (disch := omega) only [e1, e2, e3, e4, c1, c2, c3, c4, c5, c6', d16, eb, g1, g2, Option.isSome_some])) only [e1, e2, e3, e4, c1, c2, c3, c4, c5, c6', d16, eb, g1, g2, Option.isSome_some, Option.getD_some, Option.toList_some, Option.toList_none, List.cons_append, List.nil_append, E126_0, E126_1, E126_4, E126_6, E126_9, E126_10, E126_11, E126_14, E126_15, E126_18, E126_21, E126_22, E126_23, E126_26, E126_27, E126_28, E126_31, E126_34, E126_39, E126_40, E126_42, E126_43, E126_44, E126_45, E126_47, E126_48, E126_49, E126_50, E126_53, E126_54, E126_55, E126_57, E126_62, E126_65, E126_66, E126_67, E126_70, E126_71, E126_72, E126_75, if_true, if_false]
  /- the constructor -/
  obtain ⟨wr, e5, hwr⟩ := jg_ref (k := 0) hO htr rfl rfl
  obtain ⟨br, e6, hbr⟩ := jg_ref (k := 1) hO htr rfl rfl
  obtain ⟨v7, e7, hv7⟩ := jh_get (k := 3) hO htr rfl rfl
  obtain ⟨y7, rfl, y71, y72⟩ := hv7
  simp only at y71 y72
  obtain ⟨nt, hnt, rfl⟩ := nI_of (x := y7) (fun q => by have := jh_lt0.mp q; omega)
  rw [nI_toInt hnt] at y72
  obtain ⟨F, G, hF, hG, f1⟩ := ju_Job_init (f := h.1) (b := h.2.1) (y := h.2.2 + (jt_dfl 4).length) (d := d) (nu := nI n) (li := li) (w := nI kk) (z := h.2) (n := nt) (by omega) (lt tr 1 htr) (lt wr 6 hwr) (lt br 7 hbr) e5 (fun i hi => by
    have t0 : (nI i).toInt = ((i : Nat) : Int) := nI_toInt (by omega)
    obtain ⟨u, eu, hu⟩ := jh_ld (x := nI i) hO hwr (q := 6) (kd := 1) rfl rfl (by rw [t0]; omega) (by rw [t0]; omega)
    obtain ⟨v, rfl⟩ := hu
    exact ⟨v, eu⟩) e6 (fun i hi => by
    have t0 : (nI i).toInt = ((i : Nat) : Int) := nI_toInt (by omega)
    obtain ⟨u, eu, hu⟩ := jh_ld (x := nI i) hO hbr (q := 7) (kd := 0) rfl rfl (by rw [t0]; omega) (by rw [t0]; omega)
    obtain ⟨v, rfl, _⟩ := hu
    exact ⟨v, eu⟩) e7
  obtain ⟨I1, A1, X1, E1, B1⟩ := jn_new (nu := nI n) (li := li) (n := nt) (by omega) hF hG hI hA ⟨n, hn12, e1⟩
  have hz : h.2.2 + (jt_dfl 4).length + 128 + 1024 + 64 + 400 + nt = h.2.2 + 16 + 128 + 1024 + 64 + 400 + nt := rfl
  rw [hz, ← jg_newU] at f1
  have hx1 := I1.2.1
  have tr1 := X1.1 tr 1 htr
  have g3 : jv_gf (jv_U h.1 h.2.1 (ju_ct h.2.1 (nI n) li F nt G) (h.2.2 + 16 + 128 + 1024 + 64 + 400 + nt)) x 6 0 = some (.ref tr) := (ju_gfo (z := h.2) (lt x 0 hx)).trans e3
  have hclt := jh_cl I1.1 tr1 (q := 1) rfl
  obtain ⟨h2, f2, G2, hg2, ha2⟩ := jo_empty (d := d + 1) I1 tr1
  have j0 : jn_ρ ρ h.2.1 h.2.1 = some 4 := jn_at (k := 0) rfl
  /- the row of jobs has no such job -/
  have R1 : ∀ i, i < 12 → ¬ jg_R h2 x i = some (.ref h.2.1) := fun i hi q => by
    rw [jg_Rc hg2 ha2] at q
    obtain ⟨p, e, hp⟩ := jg_ref (k := 3) hO hx rfl rfl
    unfold jg_R at q
    rw [show jv_gf (jv_U h.1 h.2.1 (ju_ct h.2.1 (nI n) li F nt G) (h.2.2 + 16 + 128 + 1024 + 64 + 400 + nt)) x 6 3 = some (.ref p) from (ju_gfo (z := h.2) (lt x 0 hx)).trans e] at q
    simp only at q
    rw [ju_alo (z := h.2) (lt p 11 hp)] at q
    have t0 : (nI i).toInt = ((i : Nat) : Int) := nI_toInt (by omega)
    obtain ⟨u, eu, hu⟩ := jh_ld (x := nI i) hO hp (q := 11) (kd := 4) (ty := .object RX3) rfl rfl (by rw [t0]; omega) (by rw [t0]; omega)
    have eu' : jv_al (h.1, h.2) p (.object RX3) (nI i) = some u := eu
    rw [eu'] at q
    cases q
    rcases hu with ⟨_, z⟩ | ⟨b, z, hb⟩
    · cases z
    · cases z
      have := lt _ 4 hb
      omega
  obtain ⟨ρ3, h3, f3, I3, A3, X3, a3, R3⟩ := jo_loop (d := d) (a := h.2.1) (li := li) (w := nI kk) hnb ((kk + 15) / 16) 0 (by omega) (jn_ρ ρ h.2.1) h2 G2.1 (G2.2.2.2.2 A1) j0 ((G2.2.2.2.1 _ j0).mpr E1) (fun m _ hm => by
    have : jg_B h2 h.2.1 m = jg_B (jv_U h.1 h.2.1 (ju_ct h.2.1 (nI n) li F nt G) (h.2.2 + 16 + 128 + 1024 + 64 + 400 + nt)) h.2.1 m := jg_Bc (fun b c m hm => hg2 b c m (fun q => by rcases hm with ⟨y, _⟩ | ⟨y, _⟩ | ⟨y, _⟩ <;> omega)) ha2
    rw [this]
    exact B1 m hm) R1
  obtain ⟨p, n3, h4, h5, hn3, e8, e9, hkn, hisA, f4, e10, f5, I5, A5, X5, e11⟩ := jo_take I3 A3 a3 R3
  have hx3 := I3.2.1
  obtain ⟨un, e12⟩ := jg_int (k := 5) I5.1 hx3 rfl rfl
  obtain ⟨h6, f6, hO6, hz6, hn6, _, hg6, ha6⟩ := jg_put (k := 5) (v := .int (un + nI 1)) I5.1 hx3 rfl rfl jk_V_top rfl
  have W6 := jg_W_put I5 hO6 hz6 hn6 hg6 ha6 (by simp [jg_key])
  have hclx6 := jh_cl hO6 hx3 (q := 0) rfl
  obtain ⟨h7, f7, W7, A7⟩ := jg_activate (d := d) W6.1
  obtain ⟨z, e13⟩ := jg_int (k := 0) W7.1.1 a3 rfl rfl
  have e14 : ∃ m, 1 ≤ m ∧ m ≤ 12 ∧ jv_gf h7 x 6 4 = some (.int (nI m)) := by
    have I7 := W7.1
    obtain ⟨_, _, _, n7, js7, c7, J7, _⟩ := I7
    obtain ⟨i7, hi7, _⟩ := J7.2.2.2.2.1 _ a3
    exact ⟨n7, by omega, J7.1, J7.2.1⟩
  obtain ⟨m, hm1, hm2, e14⟩ := e14
  refine ⟨z, ρ3, h7, m, ?_, W7.1, A7, jg_X_tr X1 (jg_X_tr G2.2.1 (jg_X_tr X3 (jg_X_tr X5 (jg_X_tr W6.2.1 W7.2.1)))), hm1, hm2, e14, _, a3⟩
  have s2 : jv_ev (jv_run (d + 2)) 126 76 [some (.ref x), some (.int li), some (.int (nI kk)), some (.int (nI ((kk + 15) / 16))), none, none] [.int (nI kk), .ref tr, .int li, .int (nI n), .ref h.2.1, .ref h.2.1] (jv_new h 4) = jv_ev (jv_run (d + 2)) 126 91 [some (.ref x), some (.int li), some (.int (nI kk)), some (.int (nI ((kk + 15) / 16))), some (.ref h.2.1), some (.int (nI 0))] [] h2 := by
    simp (disch := first | omega | exact id rfl | exact jd_i | exact jd_r | exact jd_n | exact jd_f | decide | (simp (disch := omega) only [f1, g3, f2, hclt, Option.isSome_some])) only [f1, g3, f2, hclt, Option.isSome_some, Option.getD_some, Option.toList_some, Option.toList_none, List.cons_append, List.nil_append, E126_76, E126_79, E126_81, E126_82, E126_85, E126_88, E126_89]
  rw [s1, s2, f3]
  simp (disch := first | omega | exact id rfl | exact jd_i | exact jd_r | exact jd_n | exact jd_f | decide | (simp (disch := omega) only [e8, e9, hkn, hisA, f4, e10, f5, e12, f6, f7, e13, hclx6, Option.isSome_some])) only [e8, e9, hkn, hisA, f4, e10, f5, e12, f6, f7, e13, hclx6, Option.isSome_some, Option.getD_some, Option.toList_some, Option.toList_none, List.cons_append, List.nil_append, E126_118, E126_119, E126_122, E126_123, E126_126, E126_128, E126_129, E126_130, E126_131, E126_134, E126_135, E126_136, E126_139, E126_140, E126_141, E126_144, E126_145, E126_146, E126_149, E126_150, E126_153, E126_155, E126_158]
end JG
