/-! the reference reads a number; the other orders -/
section JR
variable {d m j : Nat} {I : Nat → Int32} {A : Nat → Nat → Int32} {L : Nat → Nat → Int64} {rest : Nat → Option jv_C} {z : Nat × Nat}
theorem jr_t {t : Nat} (hB : jr_B I A) (ht : t ≤ 2000) : jr_K I A I (va_up A 15 (upd (A 15) j (nI t))) := jr_K_u (k := 15) hB (by decide) (fun b hb => by cases hb; exact jr_nb (lo := 0) (hi := 2000) (by omega) ht (by decide))
/-- blanks are passed -/
theorem jr_rn1 {s : Nat} {l2 l3 l4 : Option Value} (hj : j < 12) (hs : s ≤ 2000) : ∀ (n : Nat) (A : Nat → Nat → Int32) (t : Nat), s - t ≤ n → t ≤ 2000 → A 15 j = nI t → A 14 j = nI s → jr_B I A → ∃ A' t', jv_ev (jv_run (d + 1)) 45 0 [some (.ref m), some (.int (nI j)), l2, l3, l4] [] (jm_H m I A L rest z) = jv_ev (jv_run (d + 1)) 45 33 [some (.ref m), some (.int (nI j)), l2, l3, l4] [] (jm_H m I A' L rest z) ∧ jr_K I A I A' ∧ A' 15 j = nI t' ∧ t' ≤ 2000 ∧ A' 14 j = nI s := by
  intro n
  induction n with
  | zero =>
    intro A t hn ht e1 e2 hB
    have nb := jr_next (d := d) (m := m) (I := I) (L := L) (rest := rest) (z := z) hj hs e1 e2 ht
    rw [if_pos (by omega)] at nb
    refine ⟨A, t, ?_, jr_K_rf hB, e1, ht, e2⟩
    have n1 : ¬ (-1 : Int32) = nI 32 := by decide
    have n2 : ¬ (-1 : Int32) = nI 10 := by decide
    simp (disch := first | omega | exact id rfl | exact jd_i | exact jd_r | exact jd_n | exact jd_f | decide | (simp (disch := omega) only [nb, n1, n2, Option.isSome_some])) only [nb, n1, n2, Option.isSome_some, Option.getD_some, Option.toList_some, Option.toList_none, List.cons_append, List.nil_append, E45_0, E45_1, E45_2, E45_5, E45_7, E45_10, E45_11, E45_12, E45_15, E45_17, if_false, if_true, not_false_eq_true]
  | succ n ih =>
    intro A t hn ht e1 e2 hB
    have nb := jr_next (d := d) (m := m) (I := I) (L := L) (rest := rest) (z := z) hj hs e1 e2 ht
    by_cases hst : s ≤ t
    · rw [if_pos hst] at nb
      refine ⟨A, t, ?_, jr_K_rf hB, e1, ht, e2⟩
      have n1 : ¬ (-1 : Int32) = nI 32 := by decide
      have n2 : ¬ (-1 : Int32) = nI 10 := by decide
      simp (disch := first | omega | exact id rfl | exact jd_i | exact jd_r | exact jd_n | exact jd_f | decide | (simp (disch := omega) only [nb, n1, n2, Option.isSome_some])) only [nb, n1, n2, Option.isSome_some, Option.getD_some, Option.toList_some, Option.toList_none, List.cons_append, List.nil_append, E45_0, E45_1, E45_2, E45_5, E45_7, E45_10, E45_11, E45_12, E45_15, E45_17, if_false, if_true, not_false_eq_true]
    · rw [if_neg hst] at nb
      have again : ∃ A' t', jv_ev (jv_run (d + 1)) 45 20 [some (.ref m), some (.int (nI j)), l2, l3, l4] [] (jm_H m I A L rest z) = jv_ev (jv_run (d + 1)) 45 33 [some (.ref m), some (.int (nI j)), l2, l3, l4] [] (jm_H m I A' L rest z) ∧ jr_K I A I A' ∧ A' 15 j = nI t' ∧ t' ≤ 2000 ∧ A' 14 j = nI s := by
        have K1 := jr_t (j := j) (t := t + 1) hB (by omega)
        obtain ⟨A', t', e', K', r'⟩ := ih (va_up A 15 (upd (A 15) j (nI (t + 1)))) (t + 1) (by omega) (by omega) (by rw [jz_us]; exact if_pos rfl) (by rw [jz_un (by decide)]; exact e2) K1.1
        refine ⟨A', t', ?_, jr_K_tr K1 K', r'⟩
        rw [← e']
        simp (disch := first | omega | exact id rfl | exact jd_i | exact jd_r | exact jd_n | exact jd_f | decide | (simp (disch := omega) only [e1, nI_add, Option.isSome_some])) only [e1, nI_add, Option.isSome_some, Option.getD_some, Option.toList_some, Option.toList_none, List.cons_append, List.nil_append, E45_20, E45_21, E45_24, E45_25, E45_26, E45_27, E45_28, E45_29, E45_30]
      by_cases c1 : A 13 (2000 * j + t) = nI 32
      · obtain ⟨A', t', e', r'⟩ := again
        refine ⟨A', t', ?_, r'⟩
        rw [← e', E45_0]
        simp (disch := first | omega | exact id rfl | exact jd_i | exact jd_r | exact jd_n | exact jd_f | decide | (simp (disch := omega) only [nb, c1, Option.isSome_some])) only [nb, c1, Option.isSome_some, Option.getD_some, Option.toList_some, Option.toList_none, List.cons_append, List.nil_append, E45_1, E45_2, E45_5, E45_7, if_true]
      · by_cases c2 : A 13 (2000 * j + t) = nI 10
        · obtain ⟨A', t', e', r'⟩ := again
          refine ⟨A', t', ?_, r'⟩
          rw [← e', E45_0]
          have n1 : ¬ (nI 10 : Int32) = nI 32 := by decide
          simp (disch := first | omega | exact id rfl | exact jd_i | exact jd_r | exact jd_n | exact jd_f | decide | (simp (disch := omega) only [nb, c2, n1, Option.isSome_some])) only [nb, c2, n1, Option.isSome_some, Option.getD_some, Option.toList_some, Option.toList_none, List.cons_append, List.nil_append, E45_1, E45_2, E45_5, E45_7, E45_10, E45_11, E45_12, E45_15, E45_17, if_false, not_true_eq_false]
        · refine ⟨A, t, ?_, jr_K_rf hB, e1, ht, e2⟩
          simp (disch := first | omega | exact id rfl | exact jd_i | exact jd_r | exact jd_n | exact jd_f | decide | (simp (disch := omega) only [nb, c1, c2, Option.isSome_some])) only [nb, c1, c2, Option.isSome_some, Option.getD_some, Option.toList_some, Option.toList_none, List.cons_append, List.nil_append, E45_0, E45_1, E45_2, E45_5, E45_7, E45_10, E45_11, E45_12, E45_15, E45_17, if_false, if_true, not_false_eq_true]
/-- digits -/
theorem jr_rn2 {s : Nat} {x2 : Int32} (hj : j < 12) (hs : s ≤ 2000) : ∀ (n : Nat) (A : Nat → Nat → Int32) (t : Nat) (v : Int64), s - t ≤ n → t ≤ 2000 → A 15 j = nI t → A 14 j = nI s → jr_B I A → ∃ A' t' v', jv_ev (jv_run (d + 1)) 45 65 [some (.ref m), some (.int (nI j)), some (.int x2), some (.long v), none] [] (jm_H m I A L rest z) = jv_ev (jv_run (d + 1)) 45 118 [some (.ref m), some (.int (nI j)), some (.int x2), some (.long v'), none] [] (jm_H m I A' L rest z) ∧ jr_K I A I A' ∧ A' 15 j = nI t' ∧ t' ≤ 2000 ∧ A' 14 j = nI s := by
  intro n
  induction n with
  | zero =>
    intro A t v hn ht e1 e2 hB
    have nb := jr_next (d := d) (m := m) (I := I) (L := L) (rest := rest) (z := z) hj hs e1 e2 ht
    rw [if_pos (by omega)] at nb
    refine ⟨A, t, v, ?_, jr_K_rf hB, e1, ht, e2⟩
    have n1 : (-1 : Int32) < nI 48 := by decide
    simp (disch := first | omega | exact id rfl | exact jd_i | exact jd_r | exact jd_n | exact jd_f | decide | (simp (disch := omega) only [nb, n1, Option.isSome_some])) only [nb, n1, Option.isSome_some, Option.getD_some, Option.toList_some, Option.toList_none, List.cons_append, List.nil_append, E45_65, E45_66, E45_67, E45_70, E45_72, if_true]
  | succ n ih =>
    intro A t v hn ht e1 e2 hB
    have nb := jr_next (d := d) (m := m) (I := I) (L := L) (rest := rest) (z := z) hj hs e1 e2 ht
    by_cases hst : s ≤ t
    · rw [if_pos hst] at nb
      refine ⟨A, t, v, ?_, jr_K_rf hB, e1, ht, e2⟩
      have n1 : (-1 : Int32) < nI 48 := by decide
      simp (disch := first | omega | exact id rfl | exact jd_i | exact jd_r | exact jd_n | exact jd_f | decide | (simp (disch := omega) only [nb, n1, Option.isSome_some])) only [nb, n1, Option.isSome_some, Option.getD_some, Option.toList_some, Option.toList_none, List.cons_append, List.nil_append, E45_65, E45_66, E45_67, E45_70, E45_72, if_true]
    · rw [if_neg hst] at nb
      by_cases c1 : A 13 (2000 * j + t) < nI 48
      · refine ⟨A, t, v, ?_, jr_K_rf hB, e1, ht, e2⟩
        simp (disch := first | omega | exact id rfl | exact jd_i | exact jd_r | exact jd_n | exact jd_f | decide | (simp (disch := omega) only [nb, c1, Option.isSome_some])) only [nb, c1, Option.isSome_some, Option.getD_some, Option.toList_some, Option.toList_none, List.cons_append, List.nil_append, E45_65, E45_66, E45_67, E45_70, E45_72, if_true]
      · by_cases c2 : nI 57 < A 13 (2000 * j + t)
        · refine ⟨A, t, v, ?_, jr_K_rf hB, e1, ht, e2⟩
          simp (disch := first | omega | exact id rfl | exact jd_i | exact jd_r | exact jd_n | exact jd_f | decide | (simp (disch := omega) only [nb, c1, c2, Option.isSome_some])) only [nb, c1, c2, Option.isSome_some, Option.getD_some, Option.toList_some, Option.toList_none, List.cons_append, List.nil_append, E45_65, E45_66, E45_67, E45_70, E45_72, E45_75, E45_76, E45_77, E45_80, E45_82, if_true, if_false]
        · have w := jx_word48 (d := d) (v := 10 * v + (A 13 (2000 * j + t)).toInt64 - 48) (h := jm_H m I A L rest z)
          have K1 := jr_t (j := j) (t := t + 1) hB (by omega)
          obtain ⟨A', t', v', e', K', r'⟩ := ih (va_up A 15 (upd (A 15) j (nI (t + 1)))) (t + 1) (jq_w48 (10 * v + (A 13 (2000 * j + t)).toInt64 - 48)) (by omega) (by omega) (by rw [jz_us]; exact if_pos rfl) (by rw [jz_un (by decide)]; exact e2) K1.1
          refine ⟨A', t', v', ?_, jr_K_tr K1 K', r'⟩
          rw [← e', E45_65]
          simp (disch := first | omega | exact id rfl | exact jd_i | exact jd_r | exact jd_n | exact jd_f | decide | (simp (disch := omega) only [nb, w, c1, c2, e1, nI_add, Option.isSome_some])) only [nb, w, c1, c2, e1, nI_add, Option.isSome_some, Option.getD_some, Option.toList_some, Option.toList_none, List.cons_append, List.nil_append, E45_66, E45_67, E45_70, E45_72, E45_75, E45_76, E45_77, E45_80, E45_82, E45_85, E45_88, E45_89, E45_90, E45_91, E45_92, E45_95, E45_96, E45_97, E45_100, E45_101, E45_104, E45_105, E45_106, E45_109, E45_110, E45_111, E45_112, E45_113, E45_114, E45_115, if_false]
theorem jr_readN (hj : j < 12) (hB : jr_B I A) : ∃ A' L', jv_run (d + 2) 45 [.ref m, .int (nI j)] (jm_H m I A L rest z) = some (none, jm_H m I A' L' rest z) ∧ jr_K I A I A' := by
  obtain ⟨t, ht, e1⟩ := jr_nat (n := 2000) (hB.2 15 _ rfl j)
  obtain ⟨s, hs, e2⟩ := jr_nat (n := 2000) (hB.2 14 _ rfl j)
  rw [N45]
  obtain ⟨A1, t1, f1, K1, g1, h1, q1⟩ := jr_rn1 (d := d) (m := m) (I := I) (L := L) (rest := rest) (z := z) (l2 := none) (l3 := none) (l4 := none) hj hs (s - t) A t (Nat.le_refl _) ht e1 e2 hB
  rw [f1]
  have nb := jr_next (d := d) (m := m) (I := I) (L := L) (rest := rest) (z := z) hj hs g1 q1 h1
  /- behind the digits -/
  have fin : ∀ (A2 : Nat → Nat → Int32) (t2 : Nat) (x2 : Int32) (v : Int64), jr_K I A I A2 → A2 15 j = nI t2 → t2 ≤ 2000 → A2 14 j = nI s → ∃ A' L', jv_ev (jv_run (d + 1)) 45 118 [some (.ref m), some (.int (nI j)), some (.int x2), some (.long v), none] [] (jm_H m I A2 L rest z) = some (none, jm_H m I A' L' rest z) ∧ jr_K I A I A' := fun A2 t2 x2 v K2 g2 h2 q2 => by
    have nb := jr_next (d := d) (m := m) (I := I) (L := L) (rest := rest) (z := z) hj hs g2 q2 h2
    have last : ∀ A3 : Nat → Nat → Int32, jr_K I A I A3 → ∃ A' L', jv_ev (jv_run (d + 1)) 45 136 [some (.ref m), some (.int (nI j)), some (.int x2), some (.long v), none] [] (jm_H m I A3 L rest z) = some (none, jm_H m I A' L' rest z) ∧ jr_K I A I A' := fun A3 K3 => by
      by_cases c : x2 = 0
      · subst c
        have w := jx_word48 (d := d) (v := v) (h := jm_H m I A3 L rest z)
        refine ⟨A3, va_up L 10 (vp_updL (L 10) j (jq_w48 v)), ?_, K3⟩
        simp (disch := first | omega | exact id rfl | exact jd_i | exact jd_r | exact jd_n | exact jd_f | decide | (simp (disch := omega) only [w, Option.isSome_some])) only [w, Option.isSome_some, Option.getD_some, Option.toList_some, Option.toList_none, List.cons_append, List.nil_append, E45_136, E45_137, E45_140, E45_141, E45_142, E45_150, E45_151, E45_154, E45_155, if_true]
      · have w := jx_word48 (d := d) (v := -v) (h := jm_H m I A3 L rest z)
        refine ⟨A3, va_up L 10 (vp_updL (L 10) j (jq_w48 (-v))), ?_, K3⟩
        simp (disch := first | omega | exact id rfl | exact jd_i | exact jd_r | exact jd_n | exact jd_f | decide | (simp (disch := omega) only [w, c, Option.isSome_some])) only [w, c, Option.isSome_some, Option.getD_some, Option.toList_some, Option.toList_none, List.cons_append, List.nil_append, E45_136, E45_137, E45_140, E45_141, E45_142, E45_145, E45_146, E45_147, E45_151, E45_154, E45_155, if_false]
    by_cases hst : s ≤ t2
    · rw [if_pos hst] at nb
      obtain ⟨A', L', e', K'⟩ := last A2 K2
      refine ⟨A', L', ?_, K'⟩
      rw [← e']
      have n1 : (-1 : Int32) < 0 := by decide
      simp (disch := first | omega | exact id rfl | exact jd_i | exact jd_r | exact jd_n | exact jd_f | decide | (simp (disch := omega) only [nb, n1, Option.isSome_some])) only [nb, n1, Option.isSome_some, Option.getD_some, Option.toList_some, Option.toList_none, List.cons_append, List.nil_append, E45_118, E45_119, E45_120, E45_123, if_true]
    · rw [if_neg hst] at nb
      by_cases c : A2 13 (2000 * j + t2) < 0
      · obtain ⟨A', L', e', K'⟩ := last A2 K2
        refine ⟨A', L', ?_, K'⟩
        rw [← e']
        simp (disch := first | omega | exact id rfl | exact jd_i | exact jd_r | exact jd_n | exact jd_f | decide | (simp (disch := omega) only [nb, c, Option.isSome_some])) only [nb, c, Option.isSome_some, Option.getD_some, Option.toList_some, Option.toList_none, List.cons_append, List.nil_append, E45_118, E45_119, E45_120, E45_123, if_true]
      · obtain ⟨A', L', e', K'⟩ := last (va_up A2 15 (upd (A2 15) j (nI (t2 + 1)))) (jr_K_tr K2 (jr_t (j := j) K2.1 (by omega)))
        refine ⟨A', L', ?_, K'⟩
        rw [← e']
        simp (disch := first | omega | exact id rfl | exact jd_i | exact jd_r | exact jd_n | exact jd_f | decide | (simp (disch := omega) only [nb, c, g2, nI_add, Option.isSome_some])) only [nb, c, g2, nI_add, Option.isSome_some, Option.getD_some, Option.toList_some, Option.toList_none, List.cons_append, List.nil_append, E45_118, E45_119, E45_120, E45_123, E45_126, E45_127, E45_130, E45_131, E45_132, E45_133, E45_134, E45_135, if_false]
  /- a minus, or none -/
  have mid : ∀ (A2 : Nat → Nat → Int32) (t2 : Nat) (x2 : Int32), jr_K I A I A2 → A2 15 j = nI t2 → t2 ≤ 2000 → A2 14 j = nI s → ∃ A' L', jv_ev (jv_run (d + 1)) 45 63 [some (.ref m), some (.int (nI j)), some (.int x2), none, none] [] (jm_H m I A2 L rest z) = some (none, jm_H m I A' L' rest z) ∧ jr_K I A I A' := fun A2 t2 x2 K2 g2 h2 q2 => by
    obtain ⟨A3, t3, v3, f3, K3, g3, h3, q3⟩ := jr_rn2 (d := d) (m := m) (I := I) (L := L) (rest := rest) (z := z) (x2 := x2) hj hs (s - t2) A2 t2 0 (Nat.le_refl _) h2 g2 q2 K2.1
    obtain ⟨A', L', e', K'⟩ := fin A3 t3 x2 v3 (jr_K_tr K2 K3) g3 h3 q3
    refine ⟨A', L', ?_, K'⟩
    rw [← e', ← f3]
    simp (disch := first | omega | exact id rfl | exact jd_i | exact jd_r | exact jd_n | exact jd_f | decide | (simp (disch := omega) only [nI_add, Option.isSome_some])) only [nI_add, Option.isSome_some, Option.getD_some, Option.toList_some, Option.toList_none, List.cons_append, List.nil_append, E45_63, E45_64]
  have n45 : ¬ (-1 : Int32) = nI 45 := by decide
  have i1 : ¬ (nI 1 : Int32) = 0 := by decide
  have i0 : (nI 0 : Int32) = 0 := rfl
  by_cases hst : s ≤ t1
  · rw [if_pos hst] at nb
    obtain ⟨A', L', e', K'⟩ := mid A1 t1 (nI 0) K1 g1 h1 q1
    refine ⟨A', L', ?_, K'⟩
    rw [← e']
    simp (disch := first | omega | exact id rfl | exact jd_i | exact jd_r | exact jd_n | exact jd_f | decide | (simp (disch := omega) only [nb, n45, Option.isSome_some])) only [nb, n45, Option.isSome_some, Option.getD_some, Option.toList_some, Option.toList_none, List.cons_append, List.nil_append, E45_33, E45_34, E45_35, E45_38, E45_40, E45_47, E45_48, E45_49, E45_50, if_true, not_false_eq_true]
    rw [if_pos i0]
  · rw [if_neg hst] at nb
    by_cases c : A1 13 (2000 * j + t1) = nI 45
    · obtain ⟨A', L', e', K'⟩ := mid (va_up A1 15 (upd (A1 15) j (nI (t1 + 1)))) (t1 + 1) (nI 1) (jr_K_tr K1 (jr_t (j := j) K1.1 (by omega))) (by rw [jz_us]; exact if_pos rfl) (by omega) (by rw [jz_un (by decide)]; exact q1)
      refine ⟨A', L', ?_, K'⟩
      rw [← e']
      simp (disch := first | omega | exact id rfl | exact jd_i | exact jd_r | exact jd_n | exact jd_f | decide | (simp (disch := omega) only [nb, c, g1, i1, nI_add, Option.isSome_some])) only [nb, c, g1, i1, nI_add, Option.isSome_some, Option.getD_some, Option.toList_some, Option.toList_none, List.cons_append, List.nil_append, E45_33, E45_34, E45_35, E45_38, E45_40, E45_43, E45_44, E45_48, E45_49, E45_50, E45_53, E45_54, E45_57, E45_58, E45_59, E45_60, E45_61, E45_62, if_false, not_true_eq_false]
    · obtain ⟨A', L', e', K'⟩ := mid A1 t1 (nI 0) K1 g1 h1 q1
      refine ⟨A', L', ?_, K'⟩
      rw [← e']
      simp (disch := first | omega | exact id rfl | exact jd_i | exact jd_r | exact jd_n | exact jd_f | decide | (simp (disch := omega) only [nb, c, Option.isSome_some])) only [nb, c, Option.isSome_some, Option.getD_some, Option.toList_some, Option.toList_none, List.cons_append, List.nil_append, E45_33, E45_34, E45_35, E45_38, E45_40, E45_47, E45_48, E45_49, E45_50, if_true, not_false_eq_true]
      rw [if_pos i0]
end JR
