/-! a block is wanted -/
section JS2
variable {d m : Nat} {I : Nat → Int32} {A : Nat → Nat → Int32} {L : Nat → Nat → Int64} {rest : Nat → Option jv_C} {z : Nat × Nat} {n J : Nat} {F S : Nat → Option Nat} {E : Nat → Bool} {q : List (Bool × Nat)} {w : Option (Bool × Nat × Nat)}
/-- a job waits -/
theorem js_wait {j B : Nat} {v x : Int32} (hB768 : B < 768) (hX : js_X I A n J F S E q w) (h18 : A 18 j = nI 0) : js_X (upd I 40 x) (va_up (va_up A 18 (upd (A 18) j v)) 19 (upd (A 19) j (nI B))) n J F S E q w := by
  obtain ⟨hB, ⟨h1, h2, h3, h4, h5, h6, h7, h8, h9, h10, h11, h12, h13, h14, h15⟩, hP, hW⟩ := hX
  refine ⟨jr_bI (jr_bA (jr_bA hB (fun b hb => by cases hb)) (js_ub hB (fun b hb => by cases hb; exact jr_nb (lo := 0) (hi := 767) (by omega) (by omega) (by decide)))) (fun b hb => by cases hb), ⟨h1, h2, h3, h4, h5, h6, h7, h8, h9, h10, h11, h12, h13, h14, h15⟩, hP, fun g k' hp e => ?_⟩
  have := hW g k' hp e
  have y : ¬ k' / 64 = j := fun y => by
    rw [y, h18] at this
    exact absurd this.1 (by decide)
  show (if k' / 64 = j then v else A 18 (k' / 64)) = _ ∧ (if k' / 64 = j then nI B else A 19 (k' / 64)) = _
  rw [if_neg y, if_neg y]
  exact this
/-- a read is asked for -/
theorem js_ask_r {f s B : Nat} (hX : js_X I A n J F S E q w) (h18 : A 18 (B / 64) = nI 1) (h19 : A 19 (B / 64) = nI B) (hf : F f = none) (hfn : f < n) (hs : S s = some B) (hk : ∀ g, ¬ F g = some B) : js_X (upd I 31 (nI (q.length + 1))) (jq_ask (va_up A 23 (upd (A 23) f (nI B))) q.length (nI 1) f) n J (va_up F f (some B)) S E (q ++ [(false, f)]) w := by
  obtain ⟨hB, ⟨h1, h2, h3, h4, h5, h6, h7, h8, h9, h10, h11, h12, h13, h14, h15⟩, hP, hW⟩ := hX
  have hB768 : B < 768 := by have := (hP.2.1 s B hs).2; omega
  have hP2 := jz_ask_r hP hf hfn hs hk
  have hlen2 := jz_len hP2
  rw [List.length_append, List.length_singleton] at hlen2
  refine ⟨js_bI31 (js_B_ask (by omega) (jr_bA hB (js_ub hB (fun b hb => by cases hb; exact ⟨by rw [nI_toInt (by omega)]; simp only; omega, by rw [nI_toInt (by omega)]; simp only; omega⟩)))) (by omega), ⟨h1, h2, h3, h4, h5, fun g hg => ?_, h7, h8, fun g hg => js_lk26 hg h9, ?_, fun i b g e => js_asked (b := false) rfl h11 e, h12, h13, h14, h15⟩, hP2, fun g k' hp e => ?_⟩
  · show (if g = f then nI B else A 23 g) = _
    by_cases y : g = f
    · rw [if_pos y, y, jz_us]; rfl
    · rw [if_neg y, jz_un y]; exact h6 g hg
  · show nI (q.length + 1) = _
    rw [List.length_append]
    rfl
  · by_cases y : g = f
    · rw [y, jz_us] at e
      cases e
      exact ⟨h18, h19⟩
    · rw [jz_un y] at e
      refine hW g k' ?_ e
      rcases hp with u | u
      · rcases List.mem_append.mp u with u | u
        · exact Or.inl u
        · simp at u
          exact absurd u y
      · exact Or.inr u
/-- a new block in a free frame -/
theorem js_newb {f B : Nat} (hX : js_X I A n J F S E q w) (hf : F f = none) (hfn : f < n) (hBJ : B < 64 * J) (he : ¬ E B = true) (hc : jz_cnt E 768 < 64) : js_X (upd I 22 (I 22 + nI 1)) (va_up (jq_leave (va_up (va_up A 20 (upd (A 20) B (nI 1))) 21 (upd (A 21) B (-1))) f) 23 (upd (upd (A 23) f (-1)) f (nI B))) n J (va_up F f (some B)) S (va_up E B true) q w := by
  obtain ⟨hB, ⟨h1, h2, h3, h4, h5, h6, h7, h8, h9, h10, h11, h12, h13, h14, h15⟩, hP, hW⟩ := hX
  have hB768 : B < 768 := by omega
  have hP2 := jz_new hP hf hfn hBJ hB768 he hc
  have hB1 : jr_B I (va_up (va_up A 20 (upd (A 20) B (nI 1))) 21 (upd (A 21) B (-1))) := jr_bA (jr_bA hB (js_ub hB (fun b hb => by cases hb; exact ⟨by decide, by decide⟩))) (fun b hb => by cases hb)
  have hlf : ¬ jz_lk q w f := by
    rintro (u | ⟨b, s, u⟩)
    · obtain ⟨⟨b, g⟩, m', e⟩ := List.mem_map.mp u
      simp only at e
      subst e
      obtain ⟨k', e, _⟩ := hP.2.2.2.2.2.2.1 b g m'
      rw [hf] at e; cases e
    · obtain ⟨_, _, k', e', _⟩ := hP.2.2.2.2.2.2.2.1 b f s u
      rw [hf] at e'; cases e'
  refine ⟨jr_bI (jr_bA (js_B_leave hB1) (fun b hb i => ?_)) (fun b hb => by cases hb), ⟨h1, h2, h3, h4, h5, fun g hg => ?_, h7, fun k' hk' => ?_, fun g hg => ?_, h10, h11, h12, h13, ?_, h15⟩, hP2, fun g k' hp e => ?_⟩
  · rw [js_uu]
    exact js_ub hB (fun b hb => by cases hb; exact ⟨by rw [nI_toInt (by omega)]; simp only; omega, by rw [nI_toInt (by omega)]; simp only; omega⟩) b hb i
  · show (upd (upd (A 23) f (-1)) f (nI B)) g = _
    rw [js_uu]
    show (if g = f then nI B else A 23 g) = _
    by_cases y : g = f
    · rw [if_pos y, y, jz_us]; rfl
    · rw [if_neg y, jz_un y]; exact h6 g hg
  · show (if k' = B then nI 1 else A 20 k') = _
    by_cases y : k' = B
    · rw [if_pos y, y, jz_us]; rfl
    · rw [if_neg y, jz_un y]; exact h8 k' hk'
  · show (jz_lk q w g → (if g = f then nI 0 else A 26 g) = _) ∧ (¬ jz_lk q w g → (if g = f then nI 0 else A 26 g) = _)
    by_cases y : g = f
    · subst y
      rw [if_pos rfl]
      exact ⟨fun u => absurd u hlf, fun _ => rfl⟩
    · rw [if_neg y]
      exact h9 g hg
  · show I 22 + nI 1 = _
    rw [h14, nI_add, jz_cnt_add hB768 he]
  · by_cases y : g = f
    · exfalso
      rw [y] at hp
      refine hlf ?_
      rcases hp with u | ⟨s, u⟩
      · exact Or.inl (jz_mem u)
      · exact Or.inr ⟨false, s, u⟩
    · rw [jz_un y] at e
      exact hW g k' hp e
theorem js_comes {j : Nat} {a : Int32} (hj : j < J) (hX : js_X I A n J F S E q w) (h18 : A 18 j = nI 0) : ∃ r I' A', jv_run (d + 3) 31 [.ref m, .int (nI j), .int a] (jm_H m I A L rest z) = some (some (.int r), jm_H m I' A' L rest z) ∧ I' 5 = I 5 ∧ ((r = nI 0 ∧ js_T I' A') ∨ (r = nI 1 ∧ ∃ k, k < 1024 ∧ a = nI k ∧ ∃ F' E', js_X I' A' n J F' S E' q w ∧ A' 18 j = nI 0 ∧ A' 9 = A 9 ∧ (∀ g k', F g = some k' → F' g = some k') ∧ ∃ g, F' g = some (64 * j + k / 16))) := by
  have hX' := hX
  obtain ⟨hB, ⟨h1, h2, h3, h4, h5, h6, h7, h8, h9, h10, h11, h12, h13, h14, h15⟩, hP, hW⟩ := hX'
  have hkF : ∀ f k, F f = some k → k < 768 := fun f k e => by have := (hP.1 f k e).2; omega
  have hkS : ∀ f k, S f = some k → k < 768 := fun f k e => by have := (hP.2.1 f k e).2; omega
  have hlen := jz_len hP
  have z0 : nI 0 = 0 := by decide
  have z1 : ¬ nI 1 = 0 := by decide
  have isA := jx_isAddress (d := d + 1) (a := a) (h := jm_H m I A L rest z)
  rw [N31]
  have hbad : (a < 0 ∨ nI 1024 ≤ a) → ∃ r I' A', jv_ev (jv_run (d + 2)) 31 0 [some (.ref m), some (.int (nI j)), some (.int a), none, none, none] [] (jm_H m I A L rest z) = some (some (.int r), jm_H m I' A' L rest z) ∧ I' 5 = I 5 ∧ (r = nI 0 ∧ js_T I' A') := fun ho => by
    obtain ⟨I', A', r1, r2, r3⟩ := js_ends (d := d) (m := m) (L := L) (rest := rest) (z := z) (how := nI 4) hj hX h18
    refine ⟨nI 0, I', A', ?_, r3, rfl, r2⟩
    have isA' : jv_run (d + 2) 14 [.int a] (jm_H m I A L rest z) = some (some (.int (nI 0)), jm_H m I A L rest z) := by
      rw [isA]
      have : decide (¬ a < 0 ∧ ¬ nI 1024 ≤ a) = false := by
        rw [decide_eq_false_iff_not]
        rintro ⟨u1, u2⟩
        rcases ho with u | u
        · exact u1 u
        · exact u2 u
      rw [this]
      rfl
    simp (disch := first | omega | exact id rfl | exact jd_i | exact jd_r | exact jd_n | exact jd_f | decide | (simp (disch := omega) only [isA', r1, Option.isSome_some])) only [isA', r1, Option.isSome_some, Option.getD_some, Option.toList_some, Option.toList_none, List.cons_append, List.nil_append, E31_0, E31_1, E31_4, E31_7, E31_8, E31_9, E31_10, E31_13, E31_14, z0, not_true_eq_false, if_false]
  rcases pk_ix a (n := 1024) (by decide) with ho | ho | ⟨k, hk, rfl⟩
  · obtain ⟨r, I', A', u1, u2, u3⟩ := hbad (Or.inl ho)
    exact ⟨r, I', A', u1, u2, Or.inl u3⟩
  · obtain ⟨r, I', A', u1, u2, u3⟩ := hbad (Or.inr ho)
    exact ⟨r, I', A', u1, u2, Or.inl u3⟩
  · clear hbad
    have isA' : jv_run (d + 2) 14 [.int (nI k)] (jm_H m I A L rest z) = some (some (.int (nI 1)), jm_H m I A L rest z) := by
      rw [isA]
      have : decide (¬ nI k < 0 ∧ ¬ nI 1024 ≤ nI k) = true := by
        rw [decide_eq_true_eq]
        exact ⟨nI_pos (by omega), nI_ge hk (by decide)⟩
      rw [this]
      rfl
    have isB : jv_run (d + 2) 15 [.int (nI j), .int (nI k)] (jm_H m I A L rest z) = some (some (.int (nI (64 * j + k / 16))), jm_H m I A L rest z) := by
      rw [jx_blockOf, pk_mul, pk_div (by omega) (by decide) (by decide), nI_add]
    have hB768 : 64 * j + k / 16 < 768 := by omega
    have hBJ : 64 * j + k / 16 < 64 * J := by omega
    have e20 : A 20 (64 * j + k / 16) = jq_b (E (64 * j + k / 16)) := h8 _ hB768
    have hdiv : (64 * j + k / 16) / 64 = j := by omega
    generalize hBe : 64 * j + k / 16 = B at *
    -- the free frame
    have hfr : (∃ f, f < n ∧ F f = none ∧ jv_run (d + 2) 10 [.ref m] (jm_H m I A L rest z) = some (some (.int (nI f)), jm_H m I A L rest z)) ∨ jv_run (d + 2) 10 [.ref m] (jm_H m I A L rest z) = some (some (.int (-1)), jm_H m I A L rest z) := by
      rw [jx_freeFrame h3 h1]
      by_cases c : ∃ f, f < n ∧ F f = none
      · obtain ⟨f0, c1, c2⟩ := c
        obtain ⟨f, ef, hf, eF⟩ := js_fi_some (f := A 23) (G := F) (o := none) (N := n) (fun i hi => h6 i (by omega)) hkF (fun k' e => by cases e) c1 c2
        refine Or.inl ⟨f, hf, eF, ?_⟩
        have : jq_fi (A 23) (-1) 0 n = some f := ef
        rw [this]
        rfl
      · refine Or.inr ?_
        have : jq_fi (A 23) (-1) 0 n = none := js_fi_none (f := A 23) (G := F) (o := none) (N := n) (fun i hi => h6 i (by omega)) hkF (fun k' e => by cases e) (fun p hp e => c ⟨p, hp, e⟩)
        rw [this]
        rfl
    by_cases c1 : ∃ f, F f = some B
    · obtain ⟨f0, ef0⟩ := c1
      obtain ⟨f, ef, hfn, eF⟩ := js_fi_some (f := A 23) (G := F) (o := some B) (N := n) (fun i hi => h6 i (by omega)) hkF (fun k' e => by cases e; exact hB768) (hP.1 f0 _ ef0).1 ef0
      have hfo : jv_run (d + 2) 8 [.ref m, .int (nI B)] (jm_H m I A L rest z) = some (some (.int (nI f)), jm_H m I A L rest z) := by
        rw [jx_frameOf h3 h1]
        have : jq_fi (A 23) (nI B) 0 n = some f := ef
        rw [this]
        rfl
      have b1 : ¬ nI f < 0 := nI_pos (by omega)
      have b1' : 0 ≤ nI f := nI_pos' (by omega)
      by_cases c2 : jz_lk q w f
      · have e26 := (h9 f (by omega)).1 c2
        have hE : E B = true := (hP.2.2.2.2.1 B).mpr (Or.inl ⟨f, eF⟩)
        rw [hE] at e20
        have e20' : A 20 B = nI 1 := e20
        refine ⟨nI 0, _, _, ?_, ?_, Or.inl ⟨rfl, js_X_T (js_wait (x := I 40 + nI 1) (v := nI 1) hB768 hX h18)⟩⟩
        · rcases hfr with ⟨f', g1, g2, g3⟩ | g3
          · simp (disch := first | omega | exact id rfl | exact jd_i | exact jd_r | exact jd_n | exact jd_f | decide | (simp (disch := omega) only [isA', isB, hfo, g3, Option.isSome_some])) only [isA', isB, hfo, g3, Option.isSome_some, Option.getD_some, Option.toList_some, Option.toList_none, List.cons_append, List.nil_append, E31_0, E31_1, E31_4, E31_7, E31_8, E31_9, E31_10, E31_13, E31_14, E31_15, E31_16, E31_17, E31_20, E31_21, E31_22, E31_23, E31_26, E31_28, E31_30, E31_33, E31_34, E31_37, E31_39, E31_40, E31_43, E31_44, E31_45, E31_46, E31_49, E31_50, E31_51, E31_54, E31_55, E31_58, E31_60, E31_63, E31_64, E31_65, E31_66, E31_69, E31_70, E31_71, E31_72, E31_75, E31_77, E31_78, E31_81, E31_82, E31_83, E31_86, E31_88, E31_91, E31_92, E31_93, E31_96, E31_97, E31_100, E31_101, E31_102, E31_103, E31_104, E31_106, E31_109, E31_110, E31_113, E31_115, E31_116, E31_117, E31_118, E31_119, E31_120, E31_120i, E31_121, E31_124, E31_125, E31_126, E31_129, E31_130, E31_133, E31_134, E31_136, E31_139, E31_141, E31_144, E31_145, E31_148, E31_149, E31_150, E31_151, E31_154, E31_155, E31_156, E31_157, E31_159, E31_162, E31_164, E31_167, E31_168, E31_171, E31_173, E31_174, E31_175, E31_176, E31_177, E31_179, E31_182, E31_183, z1, not_false_eq_true, if_true, if_neg b1, if_pos b1', e26, e20']
            rfl
          · simp (disch := first | omega | exact id rfl | exact jd_i | exact jd_r | exact jd_n | exact jd_f | decide | (simp (disch := omega) only [isA', isB, hfo, g3, Option.isSome_some])) only [isA', isB, hfo, g3, Option.isSome_some, Option.getD_some, Option.toList_some, Option.toList_none, List.cons_append, List.nil_append, E31_0, E31_1, E31_4, E31_7, E31_8, E31_9, E31_10, E31_13, E31_14, E31_15, E31_16, E31_17, E31_20, E31_21, E31_22, E31_23, E31_26, E31_28, E31_30, E31_33, E31_34, E31_37, E31_39, E31_40, E31_43, E31_44, E31_45, E31_46, E31_49, E31_50, E31_51, E31_54, E31_55, E31_58, E31_60, E31_63, E31_64, E31_65, E31_66, E31_69, E31_70, E31_71, E31_72, E31_75, E31_77, E31_78, E31_81, E31_82, E31_83, E31_86, E31_88, E31_91, E31_92, E31_93, E31_96, E31_97, E31_100, E31_101, E31_102, E31_103, E31_104, E31_106, E31_109, E31_110, E31_113, E31_115, E31_116, E31_117, E31_118, E31_119, E31_120, E31_120i, E31_121, E31_124, E31_125, E31_126, E31_129, E31_130, E31_133, E31_134, E31_136, E31_139, E31_141, E31_144, E31_145, E31_148, E31_149, E31_150, E31_151, E31_154, E31_155, E31_156, E31_157, E31_159, E31_162, E31_164, E31_167, E31_168, E31_171, E31_173, E31_174, E31_175, E31_176, E31_177, E31_179, E31_182, E31_183, z1, not_false_eq_true, if_true, if_neg b1, if_pos b1', e26, e20']
            rfl
        · rfl
      · have e26 := (h9 f (by omega)).2 c2
        refine ⟨nI 1, I, A, ?_, rfl, Or.inr ⟨rfl, k, hk, rfl, F, E, hX, h18, rfl, fun g k' e => e, f, by rw [hBe]; exact eF⟩⟩
        simp (disch := first | omega | exact id rfl | exact jd_i | exact jd_r | exact jd_n | exact jd_f | decide | (simp (disch := omega) only [isA', isB, hfo, Option.isSome_some])) only [isA', isB, hfo, Option.isSome_some, Option.getD_some, Option.toList_some, Option.toList_none, List.cons_append, List.nil_append, E31_0, E31_1, E31_4, E31_7, E31_8, E31_9, E31_10, E31_13, E31_14, E31_15, E31_16, E31_17, E31_20, E31_21, E31_22, E31_23, E31_26, E31_28, E31_30, E31_33, E31_34, E31_37, E31_39, E31_40, E31_43, E31_44, E31_45, E31_46, E31_49, E31_50, E31_51, E31_54, E31_55, E31_58, E31_60, E31_63, E31_64, E31_65, E31_66, E31_69, E31_70, E31_71, E31_72, E31_75, E31_77, E31_78, E31_81, E31_82, E31_83, E31_86, E31_88, E31_91, E31_92, E31_93, E31_96, E31_97, E31_100, E31_101, E31_102, E31_103, E31_104, E31_106, E31_109, E31_110, E31_113, E31_115, E31_116, E31_117, E31_118, E31_119, E31_120, E31_120i, E31_121, E31_124, E31_125, E31_126, E31_129, E31_130, E31_133, E31_134, E31_136, E31_139, E31_141, E31_144, E31_145, E31_148, E31_149, E31_150, E31_151, E31_154, E31_155, E31_156, E31_157, E31_159, E31_162, E31_164, E31_167, E31_168, E31_171, E31_173, E31_174, E31_175, E31_176, E31_177, E31_179, E31_182, E31_183, z1, z0, not_false_eq_true, not_true_eq_false, if_true, if_false, if_neg b1, e26]
    · have nf : ∀ f, ¬ F f = some B := fun f e => c1 ⟨f, e⟩
      have hfo : jv_run (d + 2) 8 [.ref m, .int (nI B)] (jm_H m I A L rest z) = some (some (.int (-1)), jm_H m I A L rest z) := by
        rw [jx_frameOf h3 h1]
        have : jq_fi (A 23) (nI B) 0 n = none := js_fi_none (f := A 23) (G := F) (o := some B) (N := n) (fun i hi => h6 i (by omega)) hkF (fun k' e => by cases e; exact hB768) (fun p _ => nf p)
        rw [this]
        rfl
      have m1 : (-1 : Int32) < 0 := by decide
      have m2 : ¬ 0 ≤ (-1 : Int32) := by decide
      cases c0 : E B with
      | false =>
        rw [c0] at e20
        have e20' : A 20 B = nI 0 := e20
        have he : ¬ E B = true := by rw [c0]; decide
        by_cases c3 : jz_cnt E 768 = 64
        · obtain ⟨I', A', r1, r2, r3⟩ := js_ends (d := d) (m := m) (L := L) (rest := rest) (z := z) (how := nI 5) hj hX h18
          refine ⟨nI 0, I', A', ?_, r3, Or.inl ⟨rfl, r2⟩⟩
          rw [c3] at h14
          simp (disch := first | omega | exact id rfl | exact jd_i | exact jd_r | exact jd_n | exact jd_f | decide | (simp (disch := omega) only [isA', isB, hfo, r1, Option.isSome_some])) only [isA', isB, hfo, r1, Option.isSome_some, Option.getD_some, Option.toList_some, Option.toList_none, List.cons_append, List.nil_append, E31_0, E31_1, E31_4, E31_7, E31_8, E31_9, E31_10, E31_13, E31_14, E31_15, E31_16, E31_17, E31_20, E31_21, E31_22, E31_23, E31_26, E31_28, E31_30, E31_33, E31_34, E31_37, E31_39, E31_40, E31_43, E31_44, E31_45, E31_46, E31_49, E31_50, E31_51, E31_54, E31_55, E31_58, E31_60, E31_63, E31_64, E31_65, E31_66, E31_69, E31_70, E31_71, E31_72, E31_75, E31_77, E31_78, E31_81, E31_82, E31_83, E31_86, E31_88, E31_91, E31_92, E31_93, E31_96, E31_97, E31_100, E31_101, E31_102, E31_103, E31_104, E31_106, E31_109, E31_110, E31_113, E31_115, E31_116, E31_117, E31_118, E31_119, E31_120, E31_120i, E31_121, E31_124, E31_125, E31_126, E31_129, E31_130, E31_133, E31_134, E31_136, E31_139, E31_141, E31_144, E31_145, E31_148, E31_149, E31_150, E31_151, E31_154, E31_155, E31_156, E31_157, E31_159, E31_162, E31_164, E31_167, E31_168, E31_171, E31_173, E31_174, E31_175, E31_176, E31_177, E31_179, E31_182, E31_183, z1, z0, not_false_eq_true, not_true_eq_false, if_true, if_false, if_pos m1, e20', h14]
        · have c4 : ¬ nI (jz_cnt E 768) = nI 64 := fun e => c3 ((nI_eq (by have := hP.2.2.2.2.2.2.2.2.2; omega) (by decide)).mp e)
          have c6 : ¬ I 22 = nI 64 := by rw [h14]; exact c4
          have c5 : jz_cnt E 768 < 64 := by have := hP.2.2.2.2.2.2.2.2.2; omega
          rcases hfr with ⟨f, g1, g2, g3⟩ | g3
          · have hX2 := js_newb hX g2 g1 hBJ he c5
            have b1 : ¬ nI f < 0 := nI_pos (by omega)
            refine ⟨nI 1, _, _, ?_, ?_, Or.inr ⟨rfl, k, hk, rfl, _, _, hX2, h18, rfl, fun g k' e => ?_, f, by rw [hBe]; exact jz_us⟩⟩
            · have x1 := jx_exist (d := d + 1) (m := m) (I := I) (A := A) (L := L) (rest := rest) (z := z) hB768
              have x2 := jx_leave (d := d + 1) (m := m) (I := upd I 22 (I 22 + nI 1)) (A := va_up (va_up A 20 (upd (A 20) B (nI 1))) 21 (upd (A 21) B (-1))) (L := L) (rest := rest) (z := z) (f := f) (by omega)
              have x3 : va_up A 20 (upd (A 20) B (nI 1)) 21 = A 21 := rfl
              have x4 : jq_leave (va_up (va_up A 20 (upd (A 20) B (nI 1))) 21 (upd (A 21) B (-1))) f 23 = upd (A 23) f (-1) := rfl
              simp (disch := first | omega | exact id rfl | exact jd_i | exact jd_r | exact jd_n | exact jd_f | decide | (simp (disch := omega) only [isA', isB, hfo, g3, x1, x2, Option.isSome_some])) only [isA', isB, hfo, g3, x1, x2, Option.isSome_some, Option.getD_some, Option.toList_some, Option.toList_none, List.cons_append, List.nil_append, E31_0, E31_1, E31_4, E31_7, E31_8, E31_9, E31_10, E31_13, E31_14, E31_15, E31_16, E31_17, E31_20, E31_21, E31_22, E31_23, E31_26, E31_28, E31_30, E31_33, E31_34, E31_37, E31_39, E31_40, E31_43, E31_44, E31_45, E31_46, E31_49, E31_50, E31_51, E31_54, E31_55, E31_58, E31_60, E31_63, E31_64, E31_65, E31_66, E31_69, E31_70, E31_71, E31_72, E31_75, E31_77, E31_78, E31_81, E31_82, E31_83, E31_86, E31_88, E31_91, E31_92, E31_93, E31_96, E31_97, E31_100, E31_101, E31_102, E31_103, E31_104, E31_106, E31_109, E31_110, E31_113, E31_115, E31_116, E31_117, E31_118, E31_119, E31_120, E31_120i, E31_121, E31_124, E31_125, E31_126, E31_129, E31_130, E31_133, E31_134, E31_136, E31_139, E31_141, E31_144, E31_145, E31_148, E31_149, E31_150, E31_151, E31_154, E31_155, E31_156, E31_157, E31_159, E31_162, E31_164, E31_167, E31_168, E31_171, E31_173, E31_174, E31_175, E31_176, E31_177, E31_179, E31_182, E31_183, z1, z0, not_false_eq_true, not_true_eq_false, if_true, if_false, if_pos m1, if_neg b1, e20', c6, x3, x4]
            · rfl
            · rw [jz_un (fun y => by rw [y, g2] at e; cases e)]
              exact e
          · refine ⟨nI 0, _, _, ?_, ?_, Or.inl ⟨rfl, js_X_T (js_wait (x := I 40 + nI 1) (v := nI 2) hB768 hX h18)⟩⟩
            · simp (disch := first | omega | exact id rfl | exact jd_i | exact jd_r | exact jd_n | exact jd_f | decide | (simp (disch := omega) only [isA', isB, hfo, g3, Option.isSome_some])) only [isA', isB, hfo, g3, Option.isSome_some, Option.getD_some, Option.toList_some, Option.toList_none, List.cons_append, List.nil_append, E31_0, E31_1, E31_4, E31_7, E31_8, E31_9, E31_10, E31_13, E31_14, E31_15, E31_16, E31_17, E31_20, E31_21, E31_22, E31_23, E31_26, E31_28, E31_30, E31_33, E31_34, E31_37, E31_39, E31_40, E31_43, E31_44, E31_45, E31_46, E31_49, E31_50, E31_51, E31_54, E31_55, E31_58, E31_60, E31_63, E31_64, E31_65, E31_66, E31_69, E31_70, E31_71, E31_72, E31_75, E31_77, E31_78, E31_81, E31_82, E31_83, E31_86, E31_88, E31_91, E31_92, E31_93, E31_96, E31_97, E31_100, E31_101, E31_102, E31_103, E31_104, E31_106, E31_109, E31_110, E31_113, E31_115, E31_116, E31_117, E31_118, E31_119, E31_120, E31_120i, E31_121, E31_124, E31_125, E31_126, E31_129, E31_130, E31_133, E31_134, E31_136, E31_139, E31_141, E31_144, E31_145, E31_148, E31_149, E31_150, E31_151, E31_154, E31_155, E31_156, E31_157, E31_159, E31_162, E31_164, E31_167, E31_168, E31_171, E31_173, E31_174, E31_175, E31_176, E31_177, E31_179, E31_182, E31_183, z1, z0, not_false_eq_true, not_true_eq_false, if_true, if_false, if_pos m1, if_neg m2, e20', h14, c4]
              rfl
            · rfl
      | true =>
        rw [c0] at e20
        have e20' : A 20 B = nI 1 := e20
        rcases hfr with ⟨f, g1, g2, g3⟩ | g3
        · have hex : ∃ s, S s = some B := by
            rcases (hP.2.2.2.2.1 B).mp c0 with u | u
            · exact absurd u c1
            · exact u
          obtain ⟨s, es⟩ := hex
          have b1 : ¬ nI f < 0 := nI_pos (by omega)
          have hX2 := js_wait (x := I 40 + nI 1) (v := nI 1) hB768 hX h18
          have hX3 := js_ask_r hX2 (by rw [hdiv]; exact if_pos rfl) (by rw [hdiv]; exact if_pos rfl) g2 g1 es nf
          refine ⟨nI 0, _, _, ?_, ?_, Or.inl ⟨rfl, js_X_T hX3⟩⟩
          · have x1 := jx_ask (d := d + 1) (m := m) (I := upd I 40 (I 40 + nI 1)) (A := va_up (va_up (va_up A 18 (upd (A 18) j (nI 1))) 19 (upd (A 19) j (nI B))) 23 (upd (A 23) f (nI B))) (L := L) (rest := rest) (z := z) (what := nI 1) (f := f) (n := q.length) (by omega) (by omega) h10
            have x2 : va_up (va_up A 18 (upd (A 18) j (nI 1))) 19 (upd (A 19) j (nI B)) 23 = A 23 := rfl
            have x3 : va_up A 18 (upd (A 18) j (nI 1)) 19 = A 19 := rfl
            rw [x2]
            simp (disch := first | omega | exact id rfl | exact jd_i | exact jd_r | exact jd_n | exact jd_f | decide | (simp (disch := omega) only [isA', isB, hfo, g3, x1, Option.isSome_some])) only [isA', isB, hfo, g3, x1, Option.isSome_some, Option.getD_some, Option.toList_some, Option.toList_none, List.cons_append, List.nil_append, E31_0, E31_1, E31_4, E31_7, E31_8, E31_9, E31_10, E31_13, E31_14, E31_15, E31_16, E31_17, E31_20, E31_21, E31_22, E31_23, E31_26, E31_28, E31_30, E31_33, E31_34, E31_37, E31_39, E31_40, E31_43, E31_44, E31_45, E31_46, E31_49, E31_50, E31_51, E31_54, E31_55, E31_58, E31_60, E31_63, E31_64, E31_65, E31_66, E31_69, E31_70, E31_71, E31_72, E31_75, E31_77, E31_78, E31_81, E31_82, E31_83, E31_86, E31_88, E31_91, E31_92, E31_93, E31_96, E31_97, E31_100, E31_101, E31_102, E31_103, E31_104, E31_106, E31_109, E31_110, E31_113, E31_115, E31_116, E31_117, E31_118, E31_119, E31_120, E31_120i, E31_121, E31_124, E31_125, E31_126, E31_129, E31_130, E31_133, E31_134, E31_136, E31_139, E31_141, E31_144, E31_145, E31_148, E31_149, E31_150, E31_151, E31_154, E31_155, E31_156, E31_157, E31_159, E31_162, E31_164, E31_167, E31_168, E31_171, E31_173, E31_174, E31_175, E31_176, E31_177, E31_179, E31_182, E31_183, z1, z0, not_false_eq_true, not_true_eq_false, if_true, if_false, if_pos m1, if_neg m2, if_neg b1, e20', x2, x3]
          · rfl
        · refine ⟨nI 0, _, _, ?_, ?_, Or.inl ⟨rfl, js_X_T (js_wait (x := I 40 + nI 1) (v := nI 2) hB768 hX h18)⟩⟩
          · simp (disch := first | omega | exact id rfl | exact jd_i | exact jd_r | exact jd_n | exact jd_f | decide | (simp (disch := omega) only [isA', isB, hfo, g3, Option.isSome_some])) only [isA', isB, hfo, g3, Option.isSome_some, Option.getD_some, Option.toList_some, Option.toList_none, List.cons_append, List.nil_append, E31_0, E31_1, E31_4, E31_7, E31_8, E31_9, E31_10, E31_13, E31_14, E31_15, E31_16, E31_17, E31_20, E31_21, E31_22, E31_23, E31_26, E31_28, E31_30, E31_33, E31_34, E31_37, E31_39, E31_40, E31_43, E31_44, E31_45, E31_46, E31_49, E31_50, E31_51, E31_54, E31_55, E31_58, E31_60, E31_63, E31_64, E31_65, E31_66, E31_69, E31_70, E31_71, E31_72, E31_75, E31_77, E31_78, E31_81, E31_82, E31_83, E31_86, E31_88, E31_91, E31_92, E31_93, E31_96, E31_97, E31_100, E31_101, E31_102, E31_103, E31_104, E31_106, E31_109, E31_110, E31_113, E31_115, E31_116, E31_117, E31_118, E31_119, E31_120, E31_120i, E31_121, E31_124, E31_125, E31_126, E31_129, E31_130, E31_133, E31_134, E31_136, E31_139, E31_141, E31_144, E31_145, E31_148, E31_149, E31_150, E31_151, E31_154, E31_155, E31_156, E31_157, E31_159, E31_162, E31_164, E31_167, E31_168, E31_171, E31_173, E31_174, E31_175, E31_176, E31_177, E31_179, E31_182, E31_183, z1, z0, not_false_eq_true, not_true_eq_false, if_true, if_false, if_pos m1, if_neg m2, e20']
            rfl
          · rfl
end JS2
