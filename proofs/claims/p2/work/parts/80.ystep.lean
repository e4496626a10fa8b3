/-! an order of a job, whole -/
section JS2
variable {d m j : Nat} {I : Nat → Int32} {A : Nat → Nat → Int32} {L : Nat → Nat → Int64} {rest : Nat → Option jv_C} {z : Nat × Nat} {n J : Nat} {F S : Nat → Option Nat} {E : Nat → Bool} {q : List (Bool × Nat)} {w : Option (Bool × Nat × Nat)}
/-- the frame of a block that is there -/
theorem js_frameOf {g B : Nat} (hX : js_X I A n J F S E q w) (hg : F g = some B) : ∃ g', g' < 17 ∧ jv_run (d + 1) 8 [.ref m, .int (nI B)] (jm_H m I A L rest z) = some (some (.int (nI g')), jm_H m I A L rest z) := by
  obtain ⟨hB, ⟨h1, h2, h3, h4, h5, h6, h7, h8, h9, h10, h11, h12, h13, h14, h15⟩, hP, hW⟩ := hX
  have hkF : ∀ f k, F f = some k → k < 768 := fun f k e => by have := (hP.1 f k e).2; omega
  obtain ⟨f, ef, hfn, eF⟩ := js_fi_some (f := A 23) (G := F) (o := some B) (N := n) (fun i hi => h6 i (by omega)) hkF (fun k' e => by cases e; exact hkF g B hg) (hP.1 g B hg).1 hg
  refine ⟨f, by omega, ?_⟩
  rw [jx_frameOf h3 h1]
  have : jq_fi (A 23) (nI B) 0 n = some f := ef
  rw [this]
  rfl
theorem js_blockOf {j k : Nat} {h : jv_H} (hj : j < 12) (hk : k < 1024) : jv_run (d + 1) 15 [.int (nI j), .int (nI k)] h = some (some (.int (nI (64 * j + k / 16))), h) := by
  rw [jx_blockOf, pk_mul, pk_div (by omega) (by decide) (by decide), nI_add]
/-- from 245: what an order does -/
theorem js_step3b {l2 l3 l6 l8 l9 l10 : Option Value} {p a : Nat} {s t : Int32} (hl10 : ¬ jv_is2 (some l10) = true) (hj : j < J) (hp : p < 1024) (ha : a < 128) (ho : jq_ord p = true) (hX : js_X I A n J F S E q w) (h18 : A 18 j = nI 0) (hs : jq_ww p = true → ∃ k, k < 1024 ∧ s = nI k) (hz : (p = 64 ∨ p = 65) → ∀ k, s = nI k → k < 1024 → ¬ L 12 (1024 * j + k) = 0) : ∃ I' A' L', jv_ev (jv_run (d + 3)) 35 245 [some (.ref m), some (.int (nI j)), l2, l3, some (.int (nI p)), some (.int (nI a)), l6, some (.int s), l8, l9, l10, some (.int t)] [] (jm_H m I A L rest z) = some (none, jm_H m I' A' L' rest z) ∧ js_T I' A' ∧ I' 5 = I 5 := by
  have hJ := hX.2.1.2.2.2.2.1
  unfold jq_ord at ho
  rw [decide_eq_true_eq] at ho
  by_cases c1 : p < 16
  · obtain ⟨x, I1, A1, L1, e, K⟩ := js_reg (d := d) (m := m) (L := L) (rest := rest) (z := z) (t := t) (show j < 12 by omega) (show 1 ≤ p by omega) (by omega) ha hX.1 hs
    obtain ⟨I', A', L', f1, f2, f3⟩ := js_step4 (d := d + 1) (m := m) (L := L1) (rest := rest) (z := z) (l2 := l2) (l3 := l3) (l5 := some (.int (nI a))) (l6 := l6) (l7 := some (.int s)) (l8 := l8) (l9 := l9) (l10 := l10) (t := x) hj hp (js_X_K hX K) ((K.2.2 18 (by decide) j).trans h18)
    refine ⟨I', A', L', ?_, f2, f3.trans (K.2.1 5 (by decide))⟩
    rw [← f1]
    simp (disch := first | omega | exact id rfl | exact jd_i | exact jd_r | exact jd_n | exact jd_f | decide | (simp (disch := omega) only [e, hl10, Option.isSome_some])) only [e, hl10, Option.isSome_some, Option.getD_some, Option.toList_some, Option.toList_none, List.cons_append, List.nil_append, E35_245, E35_247, E35_249, E35_252, E35_253, E35_254, E35_256, E35_258, E35_260, E35_262, E35_265, E35_267, nI_leI, if_neg (show ¬ 16 ≤ p by omega)]
  · by_cases c2 : p < 32
    · obtain ⟨x, I1, A1, L1, e, K⟩ := js_acc (d := d) (m := m) (L := L) (rest := rest) (z := z) (t := t) (show j < 12 by omega) (show 16 ≤ p by omega) (by omega) hX.1 hs
      obtain ⟨I', A', L', f1, f2, f3⟩ := js_step4 (d := d + 1) (m := m) (L := L1) (rest := rest) (z := z) (l2 := l2) (l3 := l3) (l5 := some (.int (nI a))) (l6 := l6) (l7 := some (.int s)) (l8 := l8) (l9 := l9) (l10 := l10) (t := x) hj hp (js_X_K hX K) ((K.2.2 18 (by decide) j).trans h18)
      refine ⟨I', A', L', ?_, f2, f3.trans (K.2.1 5 (by decide))⟩
      rw [← f1]
      simp (disch := first | omega | exact id rfl | exact jd_i | exact jd_r | exact jd_n | exact jd_f | decide | (simp (disch := omega) only [e, hl10, Option.isSome_some])) only [e, hl10, Option.isSome_some, Option.getD_some, Option.toList_some, Option.toList_none, List.cons_append, List.nil_append, E35_245, E35_247, E35_249, E35_252, E35_253, E35_254, E35_256, E35_258, E35_260, E35_262, E35_265, E35_267, E35_270, E35_272, E35_274, E35_277, E35_278, E35_279, E35_281, E35_283, E35_285, E35_288, E35_290, nI_leI, if_pos (show 16 ≤ p by omega), if_neg (show ¬ 32 ≤ p by omega)]
    · obtain ⟨A1, L1, e, K⟩ := jr_other (d := d) (m := m) (L := L) (rest := rest) (z := z) (f := nI p) (s := s) (show j < 12 by omega) hX.1 (fun hf => by
        have hf' : p = 64 ∨ p = 65 := by
          rcases hf with u | u
          · exact Or.inl ((nI_eq (by omega) (by decide)).mp u)
          · exact Or.inr ((nI_eq (by omega) (by decide)).mp u)
        obtain ⟨k, hk, ek⟩ := hs (by unfold jq_ww; rw [decide_eq_true_eq]; omega)
        exact ⟨k, hk, ek, hz hf' k ek hk⟩)
      obtain ⟨I', A', L', f1, f2, f3⟩ := js_step4 (d := d + 1) (m := m) (L := L1) (rest := rest) (z := z) (l2 := l2) (l3 := l3) (l5 := some (.int (nI a))) (l6 := l6) (l7 := some (.int s)) (l8 := l8) (l9 := l9) (l10 := l10) (t := t) hj hp (js_X_K hX K) ((K.2.2 18 (by decide) j).trans h18)
      refine ⟨I', A', L', ?_, f2, f3.trans (K.2.1 5 (by decide))⟩
      rw [← f1]
      simp (disch := first | omega | exact id rfl | exact jd_i | exact jd_r | exact jd_n | exact jd_f | decide | (simp (disch := omega) only [e, Option.isSome_some])) only [e, Option.isSome_some, Option.getD_some, Option.toList_some, Option.toList_none, List.cons_append, List.nil_append, E35_245, E35_247, E35_249, E35_252, E35_253, E35_254, E35_256, E35_258, E35_260, E35_262, E35_265, E35_267, E35_270, E35_272, E35_274, E35_277, E35_278, E35_279, E35_281, E35_283, E35_285, E35_288, E35_290, E35_293, E35_294, E35_295, E35_297, E35_299, nI_leI, if_pos (show 16 ≤ p by omega), if_pos (show 32 ≤ p by omega)]
/-- from 168: the blocks are used -/
theorem js_step3 {l2 l3 l6 l8 : Option Value} {p a c g : Nat} {s : Int32} (hl8 : ¬ jv_is2 (some l8) = true) (hj : j < J) (hp : p < 1024) (ha : a < 128) (ho : jq_ord p = true) (hX : js_X I A n J F S E q w) (h18 : A 18 j = nI 0) (hc : c < 1024) (h9 : A 9 j = nI c) (hg : F g = some (64 * j + c / 16)) (hs : jq_ww p = true → ∃ k, k < 1024 ∧ s = nI k ∧ ∃ g, F g = some (64 * j + k / 16)) (hz : (p = 64 ∨ p = 65) → ∀ k, s = nI k → k < 1024 → ¬ L 12 (1024 * j + k) = 0) : ∃ I' A' L', jv_ev (jv_run (d + 3)) 35 168 [some (.ref m), some (.int (nI j)), l2, l3, some (.int (nI p)), some (.int (nI a)), l6, some (.int s), l8, none, none, none] [] (jm_H m I A L rest z) = some (none, jm_H m I' A' L' rest z) ∧ js_T I' A' ∧ I' 5 = I 5 := by
  have hJ := hX.2.1.2.2.2.2.1
  obtain ⟨g0, hg0, e0⟩ := js_frameOf (d := d + 2) (m := m) (L := L) (rest := rest) (z := z) hX hg
  have b0 := js_blockOf (d := d + 2) (j := j) (k := c) (h := jm_H m I A L rest z) (by omega) hc
  have w0 := jx_isWithWord (d := d + 2) (p := p) (h := jm_H m I A L rest z) hp
  have key : ∃ g1, g1 < 17 ∧ jv_ev (jv_run (d + 3)) 35 168 [some (.ref m), some (.int (nI j)), l2, l3, some (.int (nI p)), some (.int (nI a)), l6, some (.int s), l8, none, none, none] [] (jm_H m I A L rest z) = jv_ev (jv_run (d + 3)) 35 209 [some (.ref m), some (.int (nI j)), l2, l3, some (.int (nI p)), some (.int (nI a)), l6, some (.int s), l8, some (.int (nI g0)), some (.int (nI g1)), none] [] (jm_H m I A L rest z) := by
    cases cw : jq_ww p with
    | false =>
      rw [cw] at w0
      have z0 : jq_b false = 0 := by decide
      refine ⟨g0, hg0, ?_⟩
      simp (disch := first | omega | exact id rfl | exact jd_i | exact jd_r | exact jd_n | exact jd_f | decide | (simp (disch := omega) only [e0, b0, w0, hl8, Option.isSome_some])) only [e0, b0, w0, hl8, Option.isSome_some, Option.getD_some, Option.toList_some, Option.toList_none, List.cons_append, List.nil_append, E35_168, E35_169, E35_170, E35_171, E35_174, E35_175, E35_176, E35_179, E35_182, E35_184, E35_186, E35_189, E35_192, E35_193, E35_194, E35_196, E35_199, E35_202, E35_205, E35_207, h9, if_pos z0]
    | true =>
      rw [cw] at w0
      have z0 : ¬ jq_b true = 0 := by decide
      obtain ⟨k, hk, rfl, g', hg'⟩ := hs cw
      obtain ⟨g1, hg1, e1⟩ := js_frameOf (d := d + 2) (m := m) (L := L) (rest := rest) (z := z) hX hg'
      have b1 := js_blockOf (d := d + 2) (j := j) (k := k) (h := jm_H m I A L rest z) (by omega) hk
      refine ⟨g1, hg1, ?_⟩
      simp (disch := first | omega | exact id rfl | exact jd_i | exact jd_r | exact jd_n | exact jd_f | decide | (simp (disch := omega) only [e0, b0, w0, e1, b1, hl8, Option.isSome_some])) only [e0, b0, w0, e1, b1, hl8, Option.isSome_some, Option.getD_some, Option.toList_some, Option.toList_none, List.cons_append, List.nil_append, E35_168, E35_169, E35_170, E35_171, E35_174, E35_175, E35_176, E35_179, E35_182, E35_184, E35_186, E35_189, E35_192, E35_193, E35_194, E35_196, E35_199, E35_202, E35_205, E35_207, h9, if_neg z0]
  obtain ⟨g1, hg1, key⟩ := key
  rw [key]
  have K1 : jr_K I A I (va_up A 27 (upd (A 27) g0 (nI 1))) := jr_K_u hX.1 (by decide) (fun b hb => by cases hb; exact ⟨by decide, by decide⟩)
  have K2 : jr_K I (va_up A 27 (upd (A 27) g0 (nI 1))) I (va_up (va_up A 27 (upd (A 27) g0 (nI 1))) 27 (upd (va_up A 27 (upd (A 27) g0 (nI 1)) 27) g1 (nI 1))) := jr_K_u K1.1 (by decide) (fun b hb => by cases hb; exact ⟨by decide, by decide⟩)
  have K3 := jr_K_u (k := 7) (i := j) (v := va_up (va_up A 27 (upd (A 27) g0 (nI 1))) 27 (upd (va_up A 27 (upd (A 27) g0 (nI 1)) 27) g1 (nI 1)) 7 j + nI 1) K2.1 (by decide) (fun b hb => by cases hb)
  have K := jr_K_tr (jr_K_tr K1 K2) K3
  obtain ⟨I', A', L', f1, f2, f3⟩ := js_step3b (d := d) (m := m) (rest := rest) (z := z) (l2 := l2) (l3 := l3) (l6 := l6) (l8 := l8) (l9 := some (.int (nI g0))) (l10 := some (.int (nI g1))) (t := nI c + nI 1) jd_i hj hp ha ho (js_X_K hX K) ((K.2.2 18 (by decide) j).trans h18) (fun cw => by
    obtain ⟨k, h1, h2, _⟩ := hs cw
    exact ⟨k, h1, h2⟩) hz
  refine ⟨I', A', L', ?_, f2, f3⟩
  rw [← f1]
  have h9' := (K.2.2 9 (by decide) j).trans h9
  simp (disch := first | omega | exact id rfl | exact jd_i | exact jd_r | exact jd_n | exact jd_f | decide) only [E35_209, E35_210, E35_213, E35_215, E35_216, E35_217, E35_218, E35_221, E35_223, E35_224, E35_225, E35_226, E35_229, E35_230, E35_231, E35_232, E35_233, E35_234, E35_235, E35_236, E35_239, E35_240, E35_241, E35_242, E35_243, h9']
/-- from 144: may the order be done? -/
theorem js_step2b {l2 l3 l6 : Option Value} {p a c g : Nat} {s : Int32} (hj : j < J) (hp : p < 1024) (ha : a < 128) (ho : jq_ord p = true) (hX : js_X I A n J F S E q w) (h18 : A 18 j = nI 0) (hc : c < 1024) (h9 : A 9 j = nI c) (hg : F g = some (64 * j + c / 16)) (hs : jq_ww p = true → ∃ k, k < 1024 ∧ s = nI k ∧ ∃ g, F g = some (64 * j + k / 16)) : ∃ I' A' L', jv_ev (jv_run (d + 3)) 35 144 [some (.ref m), some (.int (nI j)), l2, l3, some (.int (nI p)), some (.int (nI a)), l6, some (.int s), none, none, none, none] [] (jm_H m I A L rest z) = some (none, jm_H m I' A' L' rest z) ∧ js_T I' A' ∧ I' 5 = I 5 := by
  have hJ := hX.2.1.2.2.2.2.1
  obtain ⟨r, A1, e, K, hr⟩ := jr_why (d := d) (m := m) (L := L) (rest := rest) (z := z) (f := nI p) (s := s) (show j < 12 by omega) hX.1 (fun hf => by
    have hf' : p = 64 ∨ p = 65 := by
      rcases hf with u | u
      · exact Or.inl ((nI_eq (by omega) (by decide)).mp u)
      · exact Or.inr ((nI_eq (by omega) (by decide)).mp u)
    obtain ⟨k, hk, ek, _⟩ := hs (by unfold jq_ww; rw [decide_eq_true_eq]; omega)
    exact ⟨k, hk, ek⟩)
  by_cases c1 : r ≤ 0
  · obtain ⟨I', A', L', f1, f2, f3⟩ := js_step3 (d := d) (m := m) (L := L) (rest := rest) (z := z) (l2 := l2) (l3 := l3) (l6 := l6) (l8 := some (.int r)) (s := s) jd_i hj hp ha ho (js_X_K hX K) ((K.2.2 18 (by decide) j).trans h18) hc ((K.2.2 9 (by decide) j).trans h9) hg hs (fun hf => hr (by
      rcases hf with u | u
      · exact Or.inl (by rw [u])
      · exact Or.inr (by rw [u])) (Int32.not_lt.mpr c1))
    refine ⟨I', A', L', ?_, f2, f3⟩
    rw [← f1]
    simp (disch := first | omega | exact id rfl | exact jd_i | exact jd_r | exact jd_n | exact jd_f | decide | (simp (disch := omega) only [e, Option.isSome_some])) only [e, Option.isSome_some, Option.getD_some, Option.toList_some, Option.toList_none, List.cons_append, List.nil_append, E35_144, E35_145, E35_146, E35_148, E35_150, E35_153, E35_155, E35_157, E35_160, E35_161, E35_162, E35_164, E35_167, if_pos c1]
  · obtain ⟨I', A', f1, f2, f3⟩ := js_ends (d := d + 1) (m := m) (L := L) (rest := rest) (z := z) (how := r) hj (js_X_K hX K) ((K.2.2 18 (by decide) j).trans h18)
    refine ⟨I', A', L, ?_, f2, f3⟩
    simp (disch := first | omega | exact id rfl | exact jd_i | exact jd_r | exact jd_n | exact jd_f | decide | (simp (disch := omega) only [e, f1, Option.isSome_some])) only [e, f1, Option.isSome_some, Option.getD_some, Option.toList_some, Option.toList_none, List.cons_append, List.nil_append, E35_144, E35_145, E35_146, E35_148, E35_150, E35_153, E35_155, E35_157, E35_160, E35_161, E35_162, E35_164, E35_167, if_neg c1]
/-- from 44: the order is read -/
theorem js_step2 {c g : Nat} (hj : j < J) (hX : js_X I A n J F S E q w) (h18 : A 18 j = nI 0) (hc : c < 1024) (h9 : A 9 j = nI c) (hg : F g = some (64 * j + c / 16)) : ∃ I' A' L', jv_ev (jv_run (d + 3)) 35 44 [some (.ref m), some (.int (nI j)), none, none, none, none, none, none, none, none, none, none] [] (jm_H m I A L rest z) = some (none, jm_H m I' A' L' rest z) ∧ js_T I' A' ∧ I' 5 = I 5 := by
  have hJ := hX.2.1.2.2.2.2.1
  obtain ⟨p, hp, ep⟩ := pk_andE ((L 12 (1024 * j + c) >>> ((nI 38).toInt64 &&& 63)).toInt32) (m := nI 1023) 10 (by decide)
  obtain ⟨a, ha, ea⟩ := pk_andE ((L 12 (1024 * j + c) >>> ((nI 31).toInt64 &&& 63)).toInt32) (m := nI 127) 7 (by decide)
  obtain ⟨b, hb, eb⟩ := pk_andE ((L 12 (1024 * j + c) >>> ((nI 24).toInt64 &&& 63)).toInt32) (m := nI 127) 7 (by decide)
  have io := jx_isOrder (d := d + 2) (h := jm_H m I A L rest z) hp
  have hi : 1024 * j + c < 12288 := by omega
  cases co : jq_ord p with
  | false =>
    rw [co] at io
    have z0 : jq_b false = 0 := by decide
    obtain ⟨I', A', f1, f2, f3⟩ := js_ends (d := d + 1) (m := m) (L := L) (rest := rest) (z := z) (how := nI 3) hj hX h18
    refine ⟨I', A', L, ?_, f2, f3⟩
    simp (disch := first | omega | exact id rfl | exact jd_i | exact jd_r | exact jd_n | exact jd_f | decide | (simp (disch := omega) only [io, f1, Option.isSome_some])) only [io, f1, Option.isSome_some, Option.getD_some, Option.toList_some, Option.toList_none, List.cons_append, List.nil_append, E35_44, E35_45, E35_48, E35_51, E35_52, E35_53, E35_54, E35_57, E35_58, E35_59, E35_60, E35_61, E35_62, E35_63, E35_65, E35_66, E35_67, E35_70, E35_71, E35_73, E35_74, E35_76, E35_77, E35_78, E35_80, E35_81, E35_83, E35_84, E35_86, E35_87, E35_88, E35_90, E35_91, E35_93, E35_95, E35_98, E35_101, E35_102, E35_103, E35_104, E35_107, h9, pk_mul, nI_add, ep, ea, eb, z0, not_true_eq_false, if_false]
  | true =>
    rw [co] at io
    have z1 : ¬ jq_b true = 0 := by decide
    obtain ⟨s, I1, A1, L1, es, K⟩ := js_leaf_i (m := m) (L := L) (rest := rest) (z := z) (as := [.ref m, .int (nI j), .int (nI p), .int (nI a), .int (nI b), .int (jq_w24 (L 12 (1024 * j + c)))]) (jr_s34 (d + 1)) rfl hX.1 ⟨js_vm, js_vi (lo := 0) (hi := 11) (by omega) (by omega) (by decide), jk_V_top, js_vi (lo := 0) (hi := 127) (by omega) (by omega) (by decide), js_vi (lo := 0) (hi := 127) (by omega) (by omega) (by decide), jk_V_top, True.intro⟩
    have w24 := jx_word24 (d := d + 2) (v := L 12 (1024 * j + c)) (h := jm_H m I A L rest z)
    have iw := jx_isWithWord (d := d + 2) (h := jm_H m I1 A1 L1 rest z) hp
    have hX1 := js_X_K hX K
    have h18' := (K.2.2 18 (by decide) j).trans h18
    have h9' := (K.2.2 9 (by decide) j).trans h9
    have s1 : jv_ev (jv_run (d + 3)) 35 44 [some (.ref m), some (.int (nI j)), none, none, none, none, none, none, none, none, none, none] [] (jm_H m I A L rest z) = jv_ev (jv_run (d + 3)) 35 125 [some (.ref m), some (.int (nI j)), some (.long (L 12 (1024 * j + c))), none, some (.int (nI p)), some (.int (nI a)), some (.int (nI b)), some (.int s), none, none, none, none] [] (jm_H m I1 A1 L1 rest z) := by
      simp (disch := first | omega | exact id rfl | exact jd_i | exact jd_r | exact jd_n | exact jd_f | decide | (simp (disch := omega) only [io, w24, es, Option.isSome_some])) only [io, w24, es, Option.isSome_some, Option.getD_some, Option.toList_some, Option.toList_none, List.cons_append, List.nil_append, E35_44, E35_45, E35_48, E35_51, E35_52, E35_53, E35_54, E35_57, E35_58, E35_59, E35_60, E35_61, E35_62, E35_63, E35_65, E35_66, E35_67, E35_70, E35_71, E35_73, E35_74, E35_76, E35_77, E35_78, E35_80, E35_81, E35_83, E35_84, E35_86, E35_87, E35_88, E35_90, E35_91, E35_93, E35_95, E35_98, E35_101, E35_102, E35_103, E35_104, E35_107, E35_108, E35_109, E35_110, E35_112, E35_114, E35_116, E35_117, E35_120, E35_123, h9, pk_mul, nI_add, ep, ea, eb, z1, not_false_eq_true, if_true]
    rw [s1]
    cases cw : jq_ww p with
    | false =>
      rw [cw] at iw
      have z0 : jq_b false = 0 := by decide
      obtain ⟨I', A', L', f1, f2, f3⟩ := js_step2b (d := d) (m := m) (L := L1) (rest := rest) (z := z) (l2 := some (.long (L 12 (1024 * j + c)))) (l3 := none) (l6 := some (.int (nI b))) (s := s) hj hp ha co hX1 h18' hc h9' hg (fun e => by rw [cw] at e; cases e)
      refine ⟨I', A', L', ?_, f2, f3.trans (K.2.1 5 (by decide))⟩
      rw [← f1]
      simp (disch := first | omega | exact id rfl | exact jd_i | exact jd_r | exact jd_n | exact jd_f | decide | (simp (disch := omega) only [iw, Option.isSome_some])) only [iw, Option.isSome_some, Option.getD_some, Option.toList_some, Option.toList_none, List.cons_append, List.nil_append, E35_125, E35_127, E35_130, E35_133, E35_134, E35_135, E35_137, E35_140, E35_143, if_pos z0]
    | true =>
      rw [cw] at iw
      obtain ⟨r, I2, A2, ec, i5, hr⟩ := js_comes (d := d) (m := m) (L := L1) (rest := rest) (z := z) (a := s) hj hX1 h18'
      rcases hr with ⟨rfl, hT⟩ | ⟨rfl, k, hk, ek, F', E', hX2, k18, k9, kF, g', hg'⟩
      · refine ⟨I2, A2, L1, ?_, hT, i5.trans (K.2.1 5 (by decide))⟩
        have z0 : nI 0 = 0 := by decide
        simp (disch := first | omega | exact id rfl | exact jd_i | exact jd_r | exact jd_n | exact jd_f | decide | (simp (disch := omega) only [iw, ec, Option.isSome_some])) only [iw, ec, Option.isSome_some, Option.getD_some, Option.toList_some, Option.toList_none, List.cons_append, List.nil_append, E35_125, E35_127, E35_130, E35_133, E35_134, E35_135, E35_137, E35_140, E35_143, if_neg z1, z0, not_true_eq_false, if_false]
      · have k9' : A2 9 j = nI c := by rw [k9]; exact h9'
        obtain ⟨I', A', L', f1, f2, f3⟩ := js_step2b (d := d) (m := m) (L := L1) (rest := rest) (z := z) (l2 := some (.long (L 12 (1024 * j + c)))) (l3 := none) (l6 := some (.int (nI b))) (s := s) hj hp ha co hX2 k18 hc k9' (kF g _ hg) (fun _ => ⟨k, hk, ek, g', hg'⟩)
        refine ⟨I', A', L', ?_, f2, f3.trans (i5.trans (K.2.1 5 (by decide)))⟩
        rw [← f1]
        have z2 : ¬ nI 1 = 0 := by decide
        simp (disch := first | omega | exact id rfl | exact jd_i | exact jd_r | exact jd_n | exact jd_f | decide | (simp (disch := omega) only [iw, ec, Option.isSome_some])) only [iw, ec, Option.isSome_some, Option.getD_some, Option.toList_some, Option.toList_none, List.cons_append, List.nil_append, E35_125, E35_127, E35_130, E35_133, E35_134, E35_135, E35_137, E35_140, E35_143, if_neg z1, z2, not_false_eq_true, if_true]
/-- who is ready waits for no read -/
theorem js_free {f k : Nat} (hX : js_X I A n J F S E q w) (hr : jq_rdy A n j = true) (hp : (false, f) ∈ q ∨ ∃ s, w = some (false, f, s)) (hf : F f = some k) : ¬ k / 64 = j := by
  obtain ⟨hB, ⟨h1, h2, h3, h4, h5, h6, h7, h8, h9, h10, h11, h12, h13, h14, h15⟩, hP, hW⟩ := hX
  intro e
  obtain ⟨w1, w2⟩ := hW f k hp hf
  rw [e] at w1 w2
  have hkF : ∀ f k, F f = some k → k < 768 := fun f k e => by have := (hP.1 f k e).2; omega
  have hfn := (hP.1 f k hf).1
  have hl : jz_lk q w f := by
    rcases hp with u | ⟨s, u⟩
    · exact Or.inl (jz_mem u)
    · exact Or.inr ⟨false, s, u⟩
  obtain ⟨f', ef, hf', eF⟩ := js_fi_some (f := A 23) (G := F) (o := some k) (N := n) (fun i hi => h6 i (by omega)) hkF (fun k' e => by cases e; exact hkF f k hf) hfn hf
  have : f' = f := hP.2.2.1 f' f k eF hf
  subst this
  have e26 := (h9 f' (by omega)).1 hl
  unfold jq_rdy at hr
  have ef' : jq_fi (A 23) (A 19 j) 0 n = some f' := by rw [w2]; exact ef
  rw [w1, if_neg (by decide), if_neg (by decide), ef'] at hr
  simp only [e26] at hr
  exact absurd hr (by decide)
theorem js_step (hj : j < J) (hX : js_X I A n J F S E q w) (hr : jq_rdy A n j = true) : ∃ I' A' L', jv_run (d + 4) 35 [.ref m, .int (nI j)] (jm_H m I A L rest z) = some (none, jm_H m I' A' L' rest z) ∧ js_T I' A' ∧ I' 5 = I 5 := by
  have hJ := hX.2.1.2.2.2.2.1
  have hX1 : js_X I (va_up A 18 (upd (A 18) j (nI 0))) n J F S E q w := by
    have hfree := fun f k hp hf => js_free (f := f) (k := k) hX hr hp hf
    obtain ⟨hB, hR, hP, hW⟩ := hX
    refine ⟨jr_bA hB (fun b hb => by cases hb), hR, hP, fun g k' hp e => ?_⟩
    refine ⟨?_, (hW g k' hp e).2⟩
    show (if k' / 64 = j then nI 0 else A 18 (k' / 64)) = _
    rw [if_neg (hfree g k' hp e)]
    exact (hW g k' hp e).1
  have h18 : va_up A 18 (upd (A 18) j (nI 0)) 18 j = nI 0 := if_pos rfl
  have x7 : va_up A 18 (upd (A 18) j (nI 0)) 7 = A 7 := rfl
  have x6 : va_up A 18 (upd (A 18) j (nI 0)) 6 = A 6 := rfl
  have x9 : va_up A 18 (upd (A 18) j (nI 0)) 9 = A 9 := rfl
  rw [N35]
  by_cases c : A 7 j = A 6 j
  · obtain ⟨I', A', f1, f2, f3⟩ := js_ends (d := d + 1) (m := m) (L := L) (rest := rest) (z := z) (how := nI 2) hj hX1 h18
    refine ⟨I', A', L, ?_, f2, f3⟩
    simp (disch := first | omega | exact id rfl | exact jd_i | exact jd_r | exact jd_n | exact jd_f | decide | (simp (disch := omega) only [f1, Option.isSome_some])) only [f1, Option.isSome_some, Option.getD_some, Option.toList_some, Option.toList_none, List.cons_append, List.nil_append, E35_0, E35_1, E35_4, E35_5, E35_6, E35_7, E35_8, E35_11, E35_12, E35_13, E35_14, E35_17, E35_18, E35_19, E35_22, E35_23, E35_24, E35_25, E35_28, x7, x6, c, not_true_eq_false, if_false]
  · obtain ⟨r, I2, A2, ec, i5, hr2⟩ := js_comes (d := d) (m := m) (L := L) (rest := rest) (z := z) (a := A 9 j) hj hX1 h18
    rcases hr2 with ⟨rfl, hT⟩ | ⟨rfl, k, hk, ek, F', E', hX2, k18, k9, kF, g', hg'⟩
    · refine ⟨I2, A2, L, ?_, hT, i5⟩
      have z0 : ¬ ¬ nI 0 = 0 := by decide
      simp (disch := first | omega | exact id rfl | exact jd_i | exact jd_r | exact jd_n | exact jd_f | decide | (simp (disch := omega) only [ec, Option.isSome_some])) only [ec, Option.isSome_some, Option.getD_some, Option.toList_some, Option.toList_none, List.cons_append, List.nil_append, E35_0, E35_1, E35_4, E35_5, E35_6, E35_7, E35_8, E35_11, E35_12, E35_13, E35_14, E35_17, E35_18, E35_19, E35_22, E35_23, E35_24, E35_25, E35_28, E35_29, E35_30, E35_31, E35_32, E35_35, E35_36, E35_37, E35_40, E35_43, x7, x6, x9, if_pos c, if_neg z0]
    · have k9' : A2 9 j = nI k := by rw [k9]; exact ek
      obtain ⟨I', A', L', f1, f2, f3⟩ := js_step2 (d := d) (m := m) (L := L) (rest := rest) (z := z) hj hX2 k18 hk k9' hg'
      refine ⟨I', A', L', ?_, f2, f3.trans i5⟩
      rw [← f1]
      have z2 : ¬ nI 1 = 0 := by decide
      simp (disch := first | omega | exact id rfl | exact jd_i | exact jd_r | exact jd_n | exact jd_f | decide | (simp (disch := omega) only [ec, Option.isSome_some])) only [ec, Option.isSome_some, Option.getD_some, Option.toList_some, Option.toList_none, List.cons_append, List.nil_append, E35_0, E35_1, E35_4, E35_5, E35_6, E35_7, E35_8, E35_11, E35_12, E35_13, E35_14, E35_17, E35_18, E35_19, E35_22, E35_23, E35_24, E35_25, E35_28, E35_29, E35_30, E35_31, E35_32, E35_35, E35_36, E35_37, E35_40, E35_43, x7, x6, x9, c, z2, not_false_eq_true, if_true]
end JS2
