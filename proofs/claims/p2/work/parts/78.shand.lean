/-! the reference prints and reads numbers -/
section JR
variable {d m j : Nat} {I : Nat → Int32} {A : Nat → Nat → Int32} {L : Nat → Nat → Int64} {rest : Nat → Option jv_C} {z : Nat × Nat}
def jr_p (a : Nat) : Int64 := Int64.ofNat (10 ^ a)
theorem jr_p0 : ∀ a, a < 19 → ¬ jr_p a = 0 := by decide +kernel
theorem jr_pd : ∀ a, a < 19 → jr_p (a + 1) / 10 = jr_p a ∨ a = 18 := by decide +kernel
theorem jr_pm {a : Nat} : jr_p a * 10 = jr_p (a + 1) := by
  unfold jr_p
  rw [Nat.pow_succ]
  exact (Int64.ofNat_mul _ _).symm
/-- the power of ten -/
theorem jr_wn1 {call : jv_F} {h : jv_H} {l0 l1 l8 : Option Value} {g : Nat} {v : Int64} (hg : g ≤ 19) : ∀ (t i : Nat), i + t = g → 1 ≤ i → jv_ev call 39 34 [l0, l1, some (.int (nI g)), some (.long v), none, some (.long (jr_p (i - 1))), none, some (.int (nI i)), l8] [] h = jv_ev call 39 54 [l0, l1, some (.int (nI g)), some (.long v), none, some (.long (jr_p (g - 1))), none, some (.int (nI g)), l8] [] h
  | 0, i, hi, h1 => by
    have e : i = g := by omega
    subst e
    have b1 : nI i ≤ nI i := by rw [nI_leI (by omega) (by omega)]; exact Nat.le_refl _
    simp (disch := first | omega | exact id rfl | exact jd_i | exact jd_r | exact jd_n | exact jd_f | decide | (simp (disch := omega) only [b1, Option.isSome_some])) only [b1, Option.isSome_some, Option.getD_some, Option.toList_some, Option.toList_none, List.cons_append, List.nil_append, E39_34, E39_36, E39_37, if_true]
  | t + 1, i, hi, h1 => by
    have b1 : ¬ nI g ≤ nI i := by rw [nI_leI (by omega) (by omega)]; omega
    have ih := jr_wn1 (call := call) (h := h) (l0 := l0) (l1 := l1) (l8 := l8) (v := v) hg t (i + 1) (by omega) (by omega)
    have e : jr_p (i - 1) * 10 = jr_p (i + 1 - 1) := by
      rw [jr_pm]
      congr 1
      omega
    rw [← ih, E39_34]
    simp (disch := first | omega | exact id rfl | exact jd_i | exact jd_r | exact jd_n | exact jd_f | decide | (simp (disch := omega) only [b1, e, nI_add, Option.isSome_some])) only [b1, e, nI_add, Option.isSome_some, Option.getD_some, Option.toList_some, Option.toList_none, List.cons_append, List.nil_append, E39_36, E39_37, E39_40, E39_42, E39_45, E39_46, E39_48, E39_51, if_false]
/-- the digits, then the byte 10 -/
theorem jr_wn3 {l2 l3 l4 l5 l8 : Option Value} {b : Int32} (hj : j < 12) (hB : jr_B I A) : ∃ A', jv_ev (jv_run (d + 1)) 39 130 [some (.ref m), some (.int (nI j)), l2, l3, l4, l5, none, some (.int b), l8] [] (jm_H m I A L rest z) = some (none, jm_H m I A' L rest z) ∧ jr_K I A I A' := by
  by_cases h1 : b = 0
  · subst h1
    refine ⟨A, ?_, jr_K_rf hB⟩
    simp (disch := first | omega | exact id rfl | exact jd_i | exact jd_r | exact jd_n | exact jd_f | decide | (simp (disch := omega) only [nI_add, Option.isSome_some])) only [nI_add, Option.isSome_some, Option.getD_some, Option.toList_some, Option.toList_none, List.cons_append, List.nil_append, E39_130, E39_132, E39_144, if_true]
  · obtain ⟨b', A', f1, _, K1⟩ := jr_prints (d := d) (m := m) (c := nI 10) (L := L) (rest := rest) (z := z) hj hB
    refine ⟨A', ?_, K1⟩
    simp (disch := first | omega | exact id rfl | exact jd_i | exact jd_r | exact jd_n | exact jd_f | decide | (simp (disch := omega) only [f1, h1, Option.isSome_some])) only [f1, h1, Option.isSome_some, Option.getD_some, Option.toList_some, Option.toList_none, List.cons_append, List.nil_append, E39_130, E39_132, E39_135, E39_136, E39_137, E39_139, E39_142, E39_144, if_false]
theorem jr_wn2 {g : Nat} {v : Int64} (hj : j < 12) (hg : g ≤ 19) : ∀ (t i : Nat), i + t = g → ∀ (A : Nat → Nat → Int32) (b : Int32) (by' : Int64), jr_B I A → (∀ a, t = a + 1 → by' = jr_p a) → ∃ A', jv_ev (jv_run (d + 1)) 39 85 [some (.ref m), some (.int (nI j)), some (.int (nI g)), some (.long v), none, some (.long by'), none, some (.int b), some (.int (nI i))] [] (jm_H m I A L rest z) = some (none, jm_H m I A' L rest z) ∧ jr_K I A I A'
  | 0, i, hi, A, b, by', hB, _ => by
    have e : i = g := by omega
    subst e
    have b1 : nI i ≤ nI i := by rw [nI_leI (by omega) (by omega)]; exact Nat.le_refl _
    obtain ⟨A', e', K'⟩ := jr_wn3 (d := d) (m := m) (L := L) (rest := rest) (z := z) (l2 := some (.int (nI i))) (l3 := some (.long v)) (l4 := none) (l5 := some (.long by')) (l8 := some (.int (nI i))) (b := b) hj hB
    refine ⟨A', ?_, K'⟩
    rw [← e']
    simp (disch := first | omega | exact id rfl | exact jd_i | exact jd_r | exact jd_n | exact jd_f | decide | (simp (disch := omega) only [b1, Option.isSome_some])) only [b1, Option.isSome_some, Option.getD_some, Option.toList_some, Option.toList_none, List.cons_append, List.nil_append, E39_85, E39_87, E39_88, if_true]
  | t + 1, i, hi, A, b, by', hB, hby => by
    have b1 : ¬ nI g ≤ nI i := by rw [nI_leI (by omega) (by omega)]; omega
    have hb := hby t rfl
    subst hb
    by_cases h1 : b = 0
    · subst h1
      obtain ⟨A', e', K'⟩ := jr_wn3 (d := d) (m := m) (L := L) (rest := rest) (z := z) (l2 := some (.int (nI g))) (l3 := some (.long v)) (l4 := none) (l5 := some (.long (jr_p t))) (l8 := some (.int (nI i))) (b := 0) hj hB
      refine ⟨A', ?_, K'⟩
      rw [← e']
      simp (disch := first | omega | exact id rfl | exact jd_i | exact jd_r | exact jd_n | exact jd_f | decide | (simp (disch := omega) only [b1, Option.isSome_some])) only [b1, Option.isSome_some, Option.getD_some, Option.toList_some, Option.toList_none, List.cons_append, List.nil_append, E39_85, E39_87, E39_88, E39_91, E39_93, if_true, if_false]
    · have h0 := jr_p0 t (by omega)
      have h10 : ¬ (10 : Int64) = 0 := by decide
      obtain ⟨b', A1, f1, _, K1⟩ := jr_prints (d := d) (m := m) (c := (48 + (v / jr_p t - v / jr_p t / 10 * 10)).toInt32) (L := L) (rest := rest) (z := z) hj hB
      obtain ⟨A', e', K'⟩ := jr_wn2 (v := v) hj hg t (i + 1) (by omega) A1 b' (jr_p t / 10) K1.1 (fun a ha => by
        subst ha
        rcases jr_pd a (by omega) with q | q
        · exact q
        · omega)
      refine ⟨A', ?_, jr_K_tr K1 K'⟩
      rw [← e', E39_85]
      simp (disch := first | omega | exact id rfl | exact jd_i | exact jd_r | exact jd_n | exact jd_f | decide | (simp (disch := omega) only [b1, h0, h10, f1, h1, nI_add, Option.isSome_some])) only [b1, h0, h10, f1, h1, nI_add, Option.isSome_some, Option.getD_some, Option.toList_some, Option.toList_none, List.cons_append, List.nil_append, E39_87, E39_88, E39_91, E39_93, E39_96, E39_97, E39_98, E39_101, E39_102, E39_104, E39_105, E39_108, E39_109, E39_110, E39_111, E39_114, E39_116, E39_118, E39_121, E39_122, E39_124, E39_127, if_false]
theorem jr_writeN {g : Nat} (hj : j < 12) (hg1 : 1 ≤ g) (hg : g ≤ 19) (hB : jr_B I A) : ∃ A', jv_run (d + 2) 39 [.ref m, .int (nI j), .int (nI g)] (jm_H m I A L rest z) = some (none, jm_H m I A' L rest z) ∧ jr_K I A I A' := by
  rw [N39]
  have fin : ∀ v : Int64, ∃ A', jv_ev (jv_run (d + 1)) 39 27 [some (.ref m), some (.int (nI j)), some (.int (nI g)), none, none, none, none, none, none] [.long v] (jm_H m I A L rest z) = some (none, jm_H m I A' L rest z) ∧ jr_K I A I A' := fun v => by
    have w1 := jr_wn1 (call := jv_run (d + 1)) (h := jm_H m I A L rest z) (l0 := some (.ref m)) (l1 := some (.int (nI j))) (l8 := none) (v := v) hg (g - 1) 1 (by omega) (Nat.le_refl _)
    have e0 : jr_p (1 - 1) = 1 := rfl
    rw [e0] at w1
    have s1 : jv_ev (jv_run (d + 1)) 39 27 [some (.ref m), some (.int (nI j)), some (.int (nI g)), none, none, none, none, none, none] [.long v] (jm_H m I A L rest z) = jv_ev (jv_run (d + 1)) 39 34 [some (.ref m), some (.int (nI j)), some (.int (nI g)), some (.long v), none, some (.long 1), none, some (.int (nI 1)), none] [] (jm_H m I A L rest z) := by
      simp (disch := first | omega | exact id rfl | exact jd_i | exact jd_r | exact jd_n | exact jd_f | decide | (simp (disch := omega) only [nI_add, Option.isSome_some])) only [nI_add, Option.isSome_some, Option.getD_some, Option.toList_some, Option.toList_none, List.cons_append, List.nil_append, E39_27, E39_28, E39_29, E39_31, E39_32]
    rw [s1, w1]
    by_cases h1 : 0 ≤ lg_cmp (L 10 j) 0
    · obtain ⟨A', e', K'⟩ := jr_wn2 (d := d) (m := m) (I := I) (L := L) (rest := rest) (z := z) (v := v) hj hg g 0 (by omega) A (nI 1) (jr_p (g - 1)) hB (fun a ha => by subst ha; rfl)
      refine ⟨A', ?_, K'⟩
      rw [← e']
      simp (disch := first | omega | exact id rfl | exact jd_i | exact jd_r | exact jd_n | exact jd_f | decide | (simp (disch := omega) only [h1, Option.isSome_some])) only [h1, Option.isSome_some, Option.getD_some, Option.toList_some, Option.toList_none, List.cons_append, List.nil_append, E39_54, E39_55, E39_58, E39_59, E39_60, E39_61, E39_62, E39_75, E39_76, E39_80, E39_82, E39_83, if_true]
    · obtain ⟨b', A1, f1, _, K1⟩ := jr_prints (d := d) (m := m) (c := nI 45) (L := L) (rest := rest) (z := z) hj hB
      by_cases h2 : b' = 0
      · subst h2
        obtain ⟨A', e', K'⟩ := jr_wn2 (d := d) (m := m) (I := I) (L := L) (rest := rest) (z := z) (v := v) hj hg g 0 (by omega) A1 (nI 0) (jr_p (g - 1)) K1.1 (fun a ha => by subst ha; rfl)
        refine ⟨A', ?_, jr_K_tr K1 K'⟩
        rw [← e']
        simp (disch := first | omega | exact id rfl | exact jd_i | exact jd_r | exact jd_n | exact jd_f | decide | (simp (disch := omega) only [h1, f1, Option.isSome_some])) only [h1, f1, Option.isSome_some, Option.getD_some, Option.toList_some, Option.toList_none, List.cons_append, List.nil_append, E39_54, E39_55, E39_58, E39_59, E39_60, E39_61, E39_62, E39_65, E39_66, E39_67, E39_69, E39_72, E39_79, E39_80, E39_82, E39_83, if_true, if_false]
      · obtain ⟨A', e', K'⟩ := jr_wn2 (d := d) (m := m) (I := I) (L := L) (rest := rest) (z := z) (v := v) hj hg g 0 (by omega) A1 (nI 1) (jr_p (g - 1)) K1.1 (fun a ha => by subst ha; rfl)
        refine ⟨A', ?_, jr_K_tr K1 K'⟩
        rw [← e']
        simp (disch := first | omega | exact id rfl | exact jd_i | exact jd_r | exact jd_n | exact jd_f | decide | (simp (disch := omega) only [h1, h2, f1, Option.isSome_some])) only [h1, h2, f1, Option.isSome_some, Option.getD_some, Option.toList_some, Option.toList_none, List.cons_append, List.nil_append, E39_54, E39_55, E39_58, E39_59, E39_60, E39_61, E39_62, E39_65, E39_66, E39_67, E39_69, E39_72, E39_75, E39_76, E39_80, E39_82, E39_83, if_false]
  by_cases h1 : 0 ≤ lg_cmp (L 10 j) 0
  · obtain ⟨A', e', K'⟩ := fin (L 10 j)
    refine ⟨A', ?_, K'⟩
    rw [← e']
    simp (disch := first | omega | exact id rfl | exact jd_i | exact jd_r | exact jd_n | exact jd_f | decide | (simp (disch := omega) only [h1, Option.isSome_some])) only [h1, Option.isSome_some, Option.getD_some, Option.toList_some, Option.toList_none, List.cons_append, List.nil_append, E39_0, E39_1, E39_4, E39_5, E39_6, E39_7, E39_8, E39_21, E39_22, E39_25, E39_26, if_true]
  · obtain ⟨A', e', K'⟩ := fin (-L 10 j)
    refine ⟨A', ?_, K'⟩
    rw [← e']
    simp (disch := first | omega | exact id rfl | exact jd_i | exact jd_r | exact jd_n | exact jd_f | decide | (simp (disch := omega) only [h1, Option.isSome_some])) only [h1, Option.isSome_some, Option.getD_some, Option.toList_some, Option.toList_none, List.cons_append, List.nil_append, E39_0, E39_1, E39_4, E39_5, E39_6, E39_7, E39_8, E39_11, E39_12, E39_15, E39_16, E39_17, E39_18, if_false]
end JR
