/-! why an order ends its job; the other orders -/
section JR
variable {d m j : Nat} {I : Nat → Int32} {A : Nat → Nat → Int32} {L : Nat → Nat → Int64} {rest : Nat → Option jv_C} {z : Nat × Nat}
theorem jr_at {k : Nat} (hj : j < 12) (hk : k < 1024) : jv_run (d + 1) 36 [.ref m, .int (nI j), .int (nI k)] (jm_H m I A L rest z) = some (some (.long (L 12 (1024 * j + k))), jm_H m I A L rest z) := by
  rw [N36]
  simp (disch := first | omega | exact id rfl | exact jd_i | exact jd_r | exact jd_n | exact jd_f | decide | (simp (disch := omega) only [pk_mul, nI_add, Option.isSome_some])) only [pk_mul, nI_add, Option.isSome_some, Option.getD_some, Option.toList_some, Option.toList_none, List.cons_append, List.nil_append, E36_0, E36_1, E36_4, E36_7, E36_8, E36_9, E36_10, E36_11, E36_12]
theorem jr_why {f s : Int32} (hj : j < 12) (hB : jr_B I A) (hs : f = nI 64 ∨ f = nI 65 → ∃ k, k < 1024 ∧ s = nI k) : ∃ r A', jv_run (d + 3) 37 [.ref m, .int (nI j), .int f, .int s] (jm_H m I A L rest z) = some (some (.int r), jm_H m I A' L rest z) ∧ jr_K I A I A' ∧ ((f = nI 64 ∨ f = nI 65) → ¬ 0 < r → ∀ k, s = nI k → k < 1024 → ¬ L 12 (1024 * j + k) = 0) := by
  rw [N37]
  by_cases h64 : f = nI 64 ∨ f = nI 65
  · obtain ⟨k, hk, rfl⟩ := hs h64
    have a1 := jr_at (d := d + 1) (m := m) (I := I) (A := A) (L := L) (rest := rest) (z := z) hj hk
    have s1 : jv_ev (jv_run (d + 2)) 37 0 [some (.ref m), some (.int (nI j)), some (.int f), some (.int (nI k)), none, none, none] [] (jm_H m I A L rest z) = jv_ev (jv_run (d + 2)) 37 12 [some (.ref m), some (.int (nI j)), some (.int f), some (.int (nI k)), none, none, none] [] (jm_H m I A L rest z) := by
      rcases h64 with rfl | rfl
      · simp (disch := first | omega | exact id rfl | exact jd_i | exact jd_r | exact jd_n | exact jd_f | decide | (simp (disch := omega) only [nI_add, Option.isSome_some])) only [nI_add, Option.isSome_some, Option.getD_some, Option.toList_some, Option.toList_none, List.cons_append, List.nil_append, E37_0, E37_1, E37_3, if_true]
      · have n1 : ¬ nI 65 = nI 64 := by decide
        simp (disch := first | omega | exact id rfl | exact jd_i | exact jd_r | exact jd_n | exact jd_f | decide | (simp (disch := omega) only [n1, Option.isSome_some])) only [n1, Option.isSome_some, Option.getD_some, Option.toList_some, Option.toList_none, List.cons_append, List.nil_append, E37_0, E37_1, E37_3, E37_6, E37_7, E37_9, if_false, not_true_eq_false]
    rw [s1]
    by_cases c1 : lg_cmp (L 12 (1024 * j + k)) 0 = 0
    · refine ⟨nI 6, A, ?_, jr_K_rf hB, fun _ q => absurd (by decide) q⟩
      simp (disch := first | omega | exact id rfl | exact jd_i | exact jd_r | exact jd_n | exact jd_f | decide | (simp (disch := omega) only [a1, c1, Option.isSome_some])) only [a1, c1, Option.isSome_some, Option.getD_some, Option.toList_some, Option.toList_none, List.cons_append, List.nil_append, E37_12, E37_15, E37_17, E37_18, E37_19, E37_20, E37_23, E37_24, E37_25, E37_52, E37_54, E37_58, if_true]
    · have hz := jh_cmp0 c1
      by_cases c2 : lg_cmp (L 12 (1024 * j + k)) (-140737488355328) = 0
      · refine ⟨nI 6, A, ?_, jr_K_rf hB, fun _ q => absurd (by decide) q⟩
        simp (disch := first | omega | exact id rfl | exact jd_i | exact jd_r | exact jd_n | exact jd_f | decide | (simp (disch := omega) only [a1, c1, c2, Option.isSome_some])) only [a1, c1, c2, Option.isSome_some, Option.getD_some, Option.toList_some, Option.toList_none, List.cons_append, List.nil_append, E37_12, E37_15, E37_17, E37_18, E37_19, E37_20, E37_23, E37_24, E37_25, E37_28, E37_29, E37_30, E37_31, E37_34, E37_36, E37_37, E37_52, E37_54, E37_58, if_true, if_false]
      · by_cases c3 : lg_cmp (L 10 j) (-140737488355328) = 0
        · refine ⟨nI 6, A, ?_, jr_K_rf hB, fun _ q => absurd (by decide) q⟩
          simp (disch := first | omega | exact id rfl | exact jd_i | exact jd_r | exact jd_n | exact jd_f | decide | (simp (disch := omega) only [a1, c1, c2, c3, Option.isSome_some])) only [a1, c1, c2, c3, Option.isSome_some, Option.getD_some, Option.toList_some, Option.toList_none, List.cons_append, List.nil_append, E37_12, E37_15, E37_17, E37_18, E37_19, E37_20, E37_23, E37_24, E37_25, E37_28, E37_29, E37_30, E37_31, E37_34, E37_36, E37_37, E37_40, E37_41, E37_44, E37_45, E37_46, E37_48, E37_49, E37_52, E37_54, E37_58, if_false, not_true_eq_false]
        · refine ⟨nI 0, A, ?_, jr_K_rf hB, fun _ _ k' e hk' => ?_⟩
          · simp (disch := first | omega | exact id rfl | exact jd_i | exact jd_r | exact jd_n | exact jd_f | decide | (simp (disch := omega) only [a1, c1, c2, c3, Option.isSome_some])) only [a1, c1, c2, c3, Option.isSome_some, Option.getD_some, Option.toList_some, Option.toList_none, List.cons_append, List.nil_append, E37_12, E37_15, E37_17, E37_18, E37_19, E37_20, E37_23, E37_24, E37_25, E37_28, E37_29, E37_30, E37_31, E37_34, E37_36, E37_37, E37_40, E37_41, E37_44, E37_45, E37_46, E37_48, E37_49, E37_57, E37_58, if_true, if_false, not_false_eq_true]
          · rw [nI_eq (by omega) (by omega)] at e
            rw [← e]
            exact hz
  · have n1 : ¬ f = nI 64 := fun q => h64 (Or.inl q)
    have n2 : ¬ f = nI 65 := fun q => h64 (Or.inr q)
    have s1 : jv_ev (jv_run (d + 2)) 37 0 [some (.ref m), some (.int (nI j)), some (.int f), some (.int s), none, none, none] [] (jm_H m I A L rest z) = jv_ev (jv_run (d + 2)) 37 59 [some (.ref m), some (.int (nI j)), some (.int f), some (.int s), none, none, none] [] (jm_H m I A L rest z) := by
      simp (disch := first | omega | exact id rfl | exact jd_i | exact jd_r | exact jd_n | exact jd_f | decide | (simp (disch := omega) only [n1, n2, Option.isSome_some])) only [n1, n2, Option.isSome_some, Option.getD_some, Option.toList_some, Option.toList_none, List.cons_append, List.nil_append, E37_0, E37_1, E37_3, E37_6, E37_7, E37_9, if_false, if_true, not_false_eq_true]
    rw [s1]
    by_cases c1 : f = nI 68
    · subst c1
      by_cases c2 : 0 ≤ lg_cmp (L 10 j) 0
      · refine ⟨nI 0, A, ?_, jr_K_rf hB, fun q => absurd q h64⟩
        simp (disch := first | omega | exact id rfl | exact jd_i | exact jd_r | exact jd_n | exact jd_f | decide | (simp (disch := omega) only [c2, Option.isSome_some])) only [c2, Option.isSome_some, Option.getD_some, Option.toList_some, Option.toList_none, List.cons_append, List.nil_append, E37_59, E37_60, E37_62, E37_65, E37_66, E37_69, E37_70, E37_71, E37_72, E37_73, E37_81, E37_82, if_true, if_false, not_true_eq_false]
      · refine ⟨nI 6, A, ?_, jr_K_rf hB, fun q => absurd q h64⟩
        simp (disch := first | omega | exact id rfl | exact jd_i | exact jd_r | exact jd_n | exact jd_f | decide | (simp (disch := omega) only [c2, Option.isSome_some])) only [c2, Option.isSome_some, Option.getD_some, Option.toList_some, Option.toList_none, List.cons_append, List.nil_append, E37_59, E37_60, E37_62, E37_65, E37_66, E37_69, E37_70, E37_71, E37_72, E37_73, E37_76, E37_78, E37_82, if_false, not_true_eq_false]
    · by_cases c2 : f = nI 32
      · subst c2
        by_cases c3 : A 17 j = nI 400
        · refine ⟨nI 7, A, ?_, jr_K_rf hB, fun q => absurd q h64⟩
          simp (disch := first | omega | exact id rfl | exact jd_i | exact jd_r | exact jd_n | exact jd_f | decide | (simp (disch := omega) only [c1, c3, Option.isSome_some])) only [c1, c3, Option.isSome_some, Option.getD_some, Option.toList_some, Option.toList_none, List.cons_append, List.nil_append, E37_59, E37_60, E37_62, E37_83, E37_84, E37_86, E37_89, E37_90, E37_93, E37_94, E37_95, E37_98, E37_101, E37_103, E37_107, if_true, if_false, not_true_eq_false, not_false_eq_true]
        · refine ⟨nI 0, A, ?_, jr_K_rf hB, fun q => absurd q h64⟩
          simp (disch := first | omega | exact id rfl | exact jd_i | exact jd_r | exact jd_n | exact jd_f | decide | (simp (disch := omega) only [c1, c3, Option.isSome_some])) only [c1, c3, Option.isSome_some, Option.getD_some, Option.toList_some, Option.toList_none, List.cons_append, List.nil_append, E37_59, E37_60, E37_62, E37_83, E37_84, E37_86, E37_89, E37_90, E37_93, E37_94, E37_95, E37_98, E37_106, E37_107, if_true, if_false, not_true_eq_false, not_false_eq_true]
      · by_cases c3 : f = nI 66
        · subst c3
          obtain ⟨g, v', g1, g2, e1⟩ := jr_dig (call := jv_run (d + 2)) (h := jm_H m I A L rest z) (l0 := some (.ref m)) (l1 := some (.int (nI j))) (l2 := some (.int (nI 66))) (x3 := s) 18 (L 10 j / 10) 1 jr_d18
          have h10 : ¬ (10 : Int64) = 0 := by decide
          have s2 : jv_ev (jv_run (d + 2)) 37 59 [some (.ref m), some (.int (nI j)), some (.int (nI 66)), some (.int s), none, none, none] [] (jm_H m I A L rest z) = jv_ev (jv_run (d + 2)) 37 152 [some (.ref m), some (.int (nI j)), some (.int (nI 66)), some (.int s), some (.int (nI g)), some (.long v'), none] [] (jm_H m I A L rest z) := by
            rw [← e1]
            simp (disch := first | omega | exact id rfl | exact jd_i | exact jd_r | exact jd_n | exact jd_f | decide | (simp (disch := omega) only [c1, c2, h10, Option.isSome_some])) only [c1, c2, h10, Option.isSome_some, Option.getD_some, Option.toList_some, Option.toList_none, List.cons_append, List.nil_append, E37_59, E37_60, E37_62, E37_83, E37_84, E37_86, E37_108, E37_109, E37_111, E37_116, E37_117, E37_119, E37_120, E37_123, E37_124, E37_125, E37_128, E37_129, if_true, if_false, not_true_eq_false, not_false_eq_true]
          rw [s2]
          have fin : ∀ nd : Int32, ∃ r A', jv_ev (jv_run (d + 2)) 37 173 [some (.ref m), some (.int (nI j)), some (.int (nI 66)), some (.int s), some (.int (nI g)), some (.long v'), none] [.int nd] (jm_H m I A L rest z) = some (some (.int r), jm_H m I A' L rest z) ∧ jr_K I A I A' := fun nd => by
            by_cases c4 : nI 400 < A 17 j + nd
            · obtain ⟨A', f1, K1⟩ := jr_writeN (d := d) (m := m) (L := L) (rest := rest) (z := z) (g := g) hj (by omega) (by omega) hB
              refine ⟨nI 7, A', ?_, K1⟩
              simp (disch := first | omega | exact id rfl | exact jd_i | exact jd_r | exact jd_n | exact jd_f | decide | (simp (disch := omega) only [c4, f1, Option.isSome_some])) only [c4, f1, Option.isSome_some, Option.getD_some, Option.toList_some, Option.toList_none, List.cons_append, List.nil_append, E37_173, E37_175, E37_176, E37_179, E37_180, E37_181, E37_183, E37_184, E37_187, E37_192, E37_193, E37_194, E37_196, E37_199, E37_201, if_true]
            · refine ⟨nI 0, A, ?_, jr_K_rf hB⟩
              simp (disch := first | omega | exact id rfl | exact jd_i | exact jd_r | exact jd_n | exact jd_f | decide | (simp (disch := omega) only [c4, Option.isSome_some])) only [c4, Option.isSome_some, Option.getD_some, Option.toList_some, Option.toList_none, List.cons_append, List.nil_append, E37_173, E37_175, E37_176, E37_179, E37_180, E37_181, E37_183, E37_184, E37_187, E37_190, E37_191, if_false]
          by_cases c5 : 0 ≤ lg_cmp (L 10 j) 0
          · obtain ⟨r, A', e', K'⟩ := fin (nI g + nI 1 + nI 0)
            refine ⟨r, A', ?_, K', fun q => absurd q h64⟩
            rw [← e']
            simp (disch := first | omega | exact id rfl | exact jd_i | exact jd_r | exact jd_n | exact jd_f | decide | (simp (disch := omega) only [c5, Option.isSome_some])) only [c5, Option.isSome_some, Option.getD_some, Option.toList_some, Option.toList_none, List.cons_append, List.nil_append, E37_152, E37_154, E37_155, E37_156, E37_157, E37_160, E37_161, E37_162, E37_163, E37_164, E37_171, E37_172, if_true]
          · obtain ⟨r, A', e', K'⟩ := fin (nI g + nI 1 + nI 1)
            refine ⟨r, A', ?_, K', fun q => absurd q h64⟩
            rw [← e']
            simp (disch := first | omega | exact id rfl | exact jd_i | exact jd_r | exact jd_n | exact jd_f | decide | (simp (disch := omega) only [c5, Option.isSome_some])) only [c5, Option.isSome_some, Option.getD_some, Option.toList_some, Option.toList_none, List.cons_append, List.nil_append, E37_152, E37_154, E37_155, E37_156, E37_157, E37_160, E37_161, E37_162, E37_163, E37_164, E37_167, E37_168, E37_172, if_false]
        · refine ⟨nI 0, A, ?_, jr_K_rf hB, fun q => absurd q h64⟩
          simp (disch := first | omega | exact id rfl | exact jd_i | exact jd_r | exact jd_n | exact jd_f | decide | (simp (disch := omega) only [c1, c2, c3, Option.isSome_some])) only [c1, c2, c3, Option.isSome_some, Option.getD_some, Option.toList_some, Option.toList_none, List.cons_append, List.nil_append, E37_59, E37_60, E37_62, E37_83, E37_84, E37_86, E37_108, E37_109, E37_111, E37_114, E37_115, if_true, if_false, not_false_eq_true]
end JR
