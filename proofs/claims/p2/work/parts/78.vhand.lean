/-! the other orders of the reference -/
section JR
variable {d m j : Nat} {I : Nat → Int32} {A : Nat → Nat → Int32} {L : Nat → Nat → Int64} {rest : Nat → Option jv_C} {z : Nat × Nat}
theorem jr_other {f s : Int32} (hj : j < 12) (hB : jr_B I A) (hs : f = nI 64 ∨ f = nI 65 → ∃ k, k < 1024 ∧ s = nI k ∧ ¬ L 12 (1024 * j + k) = 0) : ∃ A' L', jv_run (d + 3) 44 [.ref m, .int (nI j), .int f, .int s] (jm_H m I A L rest z) = some (none, jm_H m I A' L' rest z) ∧ jr_K I A I A' := by
  rw [N44]
  by_cases c32 : f = nI 32
  · subst c32
    obtain ⟨b, A', f1, _, K1⟩ := jr_prints (d := d + 1) (m := m) (c := (L 10 j).toInt32 &&& nI 255) (L := L) (rest := rest) (z := z) hj hB
    refine ⟨A', L, ?_, K1⟩
    simp (disch := first | omega | exact id rfl | exact jd_i | exact jd_r | exact jd_n | exact jd_f | decide | (simp (disch := omega) only [f1, Option.isSome_some])) only [f1, Option.isSome_some, Option.getD_some, Option.toList_some, Option.toList_none, List.cons_append, List.nil_append, E44_0, E44_1, E44_3, E44_6, E44_7, E44_8, E44_9, E44_12, E44_13, E44_14, E44_15, E44_18, E44_19, E44_22, E44_24, E44_216, if_false, not_true_eq_false]
  · by_cases c33 : f = nI 33
    · subst c33
      obtain ⟨t, ht, e1⟩ := jr_nat (n := 2000) (hB.2 15 _ rfl j)
      obtain ⟨s', hs', e2⟩ := jr_nat (n := 2000) (hB.2 14 _ rfl j)
      have nb := jr_next (d := d + 1) (m := m) (I := I) (L := L) (rest := rest) (z := z) hj hs' e1 e2 ht
      by_cases hst : s' ≤ t
      · rw [if_pos hst] at nb
        refine ⟨va_up A 15 (upd (A 15) j (nI (t + 0))), va_up L 10 (vp_updL (L 10) j (-1 : Int32).toInt64), ?_, jr_t hB (by omega)⟩
        have n1 : ¬ (0 : Int32) ≤ lg_cmp (-1 : Int32).toInt64 0 := by decide
        simp (disch := first | omega | exact id rfl | exact jd_i | exact jd_r | exact jd_n | exact jd_f | decide | (simp (disch := omega) only [nb, c32, n1, e1, nI_add, va_up_self, pk_uLs, Option.isSome_some])) only [nb, c32, n1, e1, nI_add, va_up_self, pk_uLs, Option.isSome_some, Option.getD_some, Option.toList_some, Option.toList_none, List.cons_append, List.nil_append, E44_0, E44_1, E44_3, E44_27, E44_28, E44_30, E44_33, E44_34, E44_37, E44_38, E44_39, E44_40, E44_43, E44_44, E44_45, E44_46, E44_49, E44_50, E44_51, E44_52, E44_53, E44_56, E44_57, E44_58, E44_59, E44_60, E44_63, E44_64, E44_68, E44_69, E44_70, E44_216, if_true, if_false, not_true_eq_false, not_false_eq_true]
      · rw [if_neg hst] at nb
        by_cases c : (0 : Int32) ≤ lg_cmp (A 13 (2000 * j + t)).toInt64 0
        · refine ⟨va_up A 15 (upd (A 15) j (nI (t + 1))), va_up L 10 (vp_updL (L 10) j (A 13 (2000 * j + t)).toInt64), ?_, jr_t hB (by omega)⟩
          simp (disch := first | omega | exact id rfl | exact jd_i | exact jd_r | exact jd_n | exact jd_f | decide | (simp (disch := omega) only [nb, c32, c, e1, nI_add, va_up_self, pk_uLs, Option.isSome_some])) only [nb, c32, c, e1, nI_add, va_up_self, pk_uLs, Option.isSome_some, Option.getD_some, Option.toList_some, Option.toList_none, List.cons_append, List.nil_append, E44_0, E44_1, E44_3, E44_27, E44_28, E44_30, E44_33, E44_34, E44_37, E44_38, E44_39, E44_40, E44_43, E44_44, E44_45, E44_46, E44_49, E44_50, E44_51, E44_52, E44_53, E44_56, E44_57, E44_58, E44_59, E44_60, E44_67, E44_68, E44_69, E44_70, E44_216, if_true, if_false, not_true_eq_false, not_false_eq_true]
        · refine ⟨va_up A 15 (upd (A 15) j (nI (t + 0))), va_up L 10 (vp_updL (L 10) j (A 13 (2000 * j + t)).toInt64), ?_, jr_t hB (by omega)⟩
          simp (disch := first | omega | exact id rfl | exact jd_i | exact jd_r | exact jd_n | exact jd_f | decide | (simp (disch := omega) only [nb, c32, c, e1, nI_add, va_up_self, pk_uLs, Option.isSome_some])) only [nb, c32, c, e1, nI_add, va_up_self, pk_uLs, Option.isSome_some, Option.getD_some, Option.toList_some, Option.toList_none, List.cons_append, List.nil_append, E44_0, E44_1, E44_3, E44_27, E44_28, E44_30, E44_33, E44_34, E44_37, E44_38, E44_39, E44_40, E44_43, E44_44, E44_45, E44_46, E44_49, E44_50, E44_51, E44_52, E44_53, E44_56, E44_57, E44_58, E44_59, E44_60, E44_63, E44_64, E44_68, E44_69, E44_70, E44_216, if_true, if_false, not_true_eq_false, not_false_eq_true]
    · have s1 : jv_ev (jv_run (d + 2)) 44 0 [some (.ref m), some (.int (nI j)), some (.int f), some (.int s), none, none, none] [] (jm_H m I A L rest z) = jv_ev (jv_run (d + 2)) 44 73 [some (.ref m), some (.int (nI j)), some (.int f), some (.int s), none, none, none] [] (jm_H m I A L rest z) := by
        simp (disch := first | omega | exact id rfl | exact jd_i | exact jd_r | exact jd_n | exact jd_f | decide | (simp (disch := omega) only [c32, c33, Option.isSome_some])) only [c32, c33, Option.isSome_some, Option.getD_some, Option.toList_some, Option.toList_none, List.cons_append, List.nil_append, E44_0, E44_1, E44_3, E44_27, E44_28, E44_30, if_true, not_false_eq_true]
      rw [s1]
      by_cases c64 : f = nI 64
      · obtain ⟨k, hk, rfl, h0⟩ := hs (Or.inl c64)
        subst c64
        have a1 := jr_at (d := d + 1) (m := m) (I := I) (A := A) (L := L) (rest := rest) (z := z) hj hk
        refine ⟨A, va_up L 10 (vp_updL (L 10) j (L 10 j / L 12 (1024 * j + k))), ?_, jr_K_rf hB⟩
        simp (disch := first | omega | exact id rfl | exact jd_i | exact jd_r | exact jd_n | exact jd_f | decide | (simp (disch := omega) only [a1, h0, Option.isSome_some])) only [a1, h0, Option.isSome_some, Option.getD_some, Option.toList_some, Option.toList_none, List.cons_append, List.nil_append, E44_73, E44_74, E44_76, E44_79, E44_80, E44_83, E44_84, E44_85, E44_88, E44_89, E44_90, E44_91, E44_92, E44_93, E44_96, E44_97, E44_98, E44_216, if_false, not_true_eq_false]
      · by_cases c65 : f = nI 65
        · obtain ⟨k, hk, rfl, h0⟩ := hs (Or.inr c65)
          subst c65
          have a1 := jr_at (d := d + 1) (m := m) (I := I) (A := A) (L := L) (rest := rest) (z := z) hj hk
          refine ⟨A, va_up L 10 (vp_updL (L 10) j (L 10 j - L 10 j / L 12 (1024 * j + k) * L 12 (1024 * j + k))), ?_, jr_K_rf hB⟩
          simp (disch := first | omega | exact id rfl | exact jd_i | exact jd_r | exact jd_n | exact jd_f | decide | (simp (disch := omega) only [a1, h0, c64, Option.isSome_some])) only [a1, h0, c64, Option.isSome_some, Option.getD_some, Option.toList_some, Option.toList_none, List.cons_append, List.nil_append, E44_73, E44_74, E44_76, E44_101, E44_102, E44_104, E44_107, E44_108, E44_111, E44_112, E44_113, E44_116, E44_117, E44_118, E44_119, E44_120, E44_121, E44_124, E44_125, E44_126, E44_216, if_true, if_false, not_true_eq_false, not_false_eq_true]
        · by_cases c66 : f = nI 66
          · subst c66
            obtain ⟨g, v', g1, g2, e1⟩ := jr_dig2 (call := jv_run (d + 2)) (h := jm_H m I A L rest z) (l0 := some (.ref m)) (l1 := some (.int (nI j))) (l2 := some (.int (nI 66))) (x3 := s) 18 (L 10 j / 10) 1 jr_d18
            have h10 : ¬ (10 : Int64) = 0 := by decide
            obtain ⟨A', f1, K1⟩ := jr_writeN (d := d) (m := m) (L := L) (rest := rest) (z := z) (g := g) hj (by omega) (by omega) hB
            have s2 : jv_ev (jv_run (d + 2)) 44 73 [some (.ref m), some (.int (nI j)), some (.int (nI 66)), some (.int s), none, none, none] [] (jm_H m I A L rest z) = jv_ev (jv_run (d + 2)) 44 171 [some (.ref m), some (.int (nI j)), some (.int (nI 66)), some (.int s), some (.int (nI g)), some (.long v'), none] [] (jm_H m I A L rest z) := by
              rw [← e1]
              simp (disch := first | omega | exact id rfl | exact jd_i | exact jd_r | exact jd_n | exact jd_f | decide | (simp (disch := omega) only [c64, c65, h10, Option.isSome_some])) only [c64, c65, h10, Option.isSome_some, Option.getD_some, Option.toList_some, Option.toList_none, List.cons_append, List.nil_append, E44_73, E44_74, E44_76, E44_101, E44_102, E44_104, E44_129, E44_130, E44_132, E44_135, E44_136, E44_138, E44_139, E44_142, E44_143, E44_144, E44_147, E44_148, if_true, if_false, not_true_eq_false, not_false_eq_true]
            rw [s2]
            refine ⟨A', L, ?_, K1⟩
            simp (disch := first | omega | exact id rfl | exact jd_i | exact jd_r | exact jd_n | exact jd_f | decide | (simp (disch := omega) only [f1, Option.isSome_some])) only [f1, Option.isSome_some, Option.getD_some, Option.toList_some, Option.toList_none, List.cons_append, List.nil_append, E44_171, E44_172, E44_173, E44_175, E44_178, E44_216]
          · by_cases c67 : f = nI 67
            · subst c67
              obtain ⟨A', L', f1, K1⟩ := jr_readN (d := d) (m := m) (L := L) (rest := rest) (z := z) hj hB
              refine ⟨A', L', ?_, K1⟩
              simp (disch := first | omega | exact id rfl | exact jd_i | exact jd_r | exact jd_n | exact jd_f | decide | (simp (disch := omega) only [f1, c64, c65, c66, Option.isSome_some])) only [f1, c64, c65, c66, Option.isSome_some, Option.getD_some, Option.toList_some, Option.toList_none, List.cons_append, List.nil_append, E44_73, E44_74, E44_76, E44_101, E44_102, E44_104, E44_129, E44_130, E44_132, E44_181, E44_182, E44_184, E44_187, E44_188, E44_189, E44_192, E44_216, if_true, if_false, not_true_eq_false, not_false_eq_true]
            · by_cases c68 : f = nI 68
              · subst c68
                obtain ⟨r, f1⟩ := jr_root (d := d + 1) (v := L 10 j) (h := jm_H m I A L rest z)
                refine ⟨A, va_up L 10 (vp_updL (L 10) j r), ?_, jr_K_rf hB⟩
                simp (disch := first | omega | exact id rfl | exact jd_i | exact jd_r | exact jd_n | exact jd_f | decide | (simp (disch := omega) only [f1, c64, c65, c66, c67, Option.isSome_some])) only [f1, c64, c65, c66, c67, Option.isSome_some, Option.getD_some, Option.toList_some, Option.toList_none, List.cons_append, List.nil_append, E44_73, E44_74, E44_76, E44_101, E44_102, E44_104, E44_129, E44_130, E44_132, E44_181, E44_182, E44_184, E44_195, E44_196, E44_198, E44_201, E44_202, E44_205, E44_206, E44_207, E44_210, E44_211, E44_212, E44_215, E44_216, if_true, if_false, not_true_eq_false, not_false_eq_true]
              · refine ⟨A, L, ?_, jr_K_rf hB⟩
                simp (disch := first | omega | exact id rfl | exact jd_i | exact jd_r | exact jd_n | exact jd_f | decide | (simp (disch := omega) only [c64, c65, c66, c67, c68, Option.isSome_some])) only [c64, c65, c66, c67, c68, Option.isSome_some, Option.getD_some, Option.toList_some, Option.toList_none, List.cons_append, List.nil_append, E44_73, E44_74, E44_76, E44_101, E44_102, E44_104, E44_129, E44_130, E44_132, E44_181, E44_182, E44_184, E44_195, E44_196, E44_198, E44_216, if_true, not_false_eq_true]
end JR
