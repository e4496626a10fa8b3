/-! the reference's methods on a new object -/
section JR
variable {x d m : Nat} {rest : Nat → Option jv_C} {z : Nat × Nat}
abbrev jr_H (m : Nat) (rest : Nat → Option jv_C) (z : Nat × Nat) : jv_H := jm_H m jm_I0 (jm_A2 64) jm_L0 rest z
theorem jr_23 {i : Nat} (hi : i < 17) : jm_A2 64 23 i = -1 := if_pos hi
theorem jr_28 {i : Nat} (hi : i < 64) : jm_A2 64 28 i = -1 := if_pos hi
theorem jr_26 {i : Nat} : jm_A2 64 26 i = 0 := rfl
theorem jr_isJob {j : Int32} : jv_run (d + 1) 48 [.ref m, .int j] (jr_H m rest z) = some (some (.int (jq_b false)), jr_H m rest z) := by
  rw [jx_isJob (n := 0) rfl]
  have e : jq_isJob 0 j = false := decide_eq_false (fun h => h.1 h.2)
  rw [e]
theorem jr_ended {j : Int32} : jv_run (d + 2) 49 [.ref m, .int j] (jr_H m rest z) = some (some (.int (-1)), jr_H m rest z) := by
  rw [N49]
  simp (disch := first | omega | exact id rfl | exact jd_i | exact jd_r | exact jd_n | exact jd_f | decide | (simp (disch := omega) only [jr_isJob, Option.isSome_some])) only [jr_isJob, Option.isSome_some, Option.getD_some, Option.toList_some, Option.toList_none, List.cons_append, List.nil_append, E49_0, E49_1, E49_2, E49_5, E49_8, E49_9, E49_12, E49_13, E49_14, E49_17, E49_18, jq_b0, if_true]
theorem jr_done {j : Int32} : jv_run (d + 2) 50 [.ref m, .int j] (jr_H m rest z) = some (some (.int (-1)), jr_H m rest z) := by
  rw [N50]
  simp (disch := first | omega | exact id rfl | exact jd_i | exact jd_r | exact jd_n | exact jd_f | decide | (simp (disch := omega) only [jr_isJob, Option.isSome_some])) only [jr_isJob, Option.isSome_some, Option.getD_some, Option.toList_some, Option.toList_none, List.cons_append, List.nil_append, E50_0, E50_1, E50_2, E50_5, E50_8, E50_9, E50_12, E50_13, E50_14, E50_17, E50_18, jq_b0, if_true]
theorem jr_printed {j : Int32} : jv_run (d + 2) 51 [.ref m, .int j] (jr_H m rest z) = some (some (.int (-1)), jr_H m rest z) := by
  rw [N51]
  simp (disch := first | omega | exact id rfl | exact jd_i | exact jd_r | exact jd_n | exact jd_f | decide | (simp (disch := omega) only [jr_isJob, Option.isSome_some])) only [jr_isJob, Option.isSome_some, Option.getD_some, Option.toList_some, Option.toList_none, List.cons_append, List.nil_append, E51_0, E51_1, E51_2, E51_5, E51_8, E51_9, E51_12, E51_13, E51_14, E51_17, E51_18, jq_b0, if_true]
theorem jr_out {j i : Int32} : jv_run (d + 2) 52 [.ref m, .int j, .int i] (jr_H m rest z) = some (some (.int (-1)), jr_H m rest z) := by
  rw [N52]
  simp (disch := first | omega | exact id rfl | exact jd_i | exact jd_r | exact jd_n | exact jd_f | decide | (simp (disch := omega) only [jr_isJob, Option.isSome_some])) only [jr_isJob, Option.isSome_some, Option.getD_some, Option.toList_some, Option.toList_none, List.cons_append, List.nil_append, E52_0, E52_1, E52_2, E52_5, E52_8, E52_9, E52_12, E52_13, E52_14, E52_17, E52_18, E52_19, E52_22, E52_23, E52_26, E52_29, E52_30, E52_31, E52_32, E52_33, E52_34, E52_37, E52_38, jq_b0, if_true]
theorem jr_register {j i : Int32} : jv_run (d + 2) 53 [.ref m, .int j, .int i] (jr_H m rest z) = some (some (.long 0), jr_H m rest z) := by
  rw [N53]
  simp (disch := first | omega | exact id rfl | exact jd_i | exact jd_r | exact jd_n | exact jd_f | decide | (simp (disch := omega) only [jr_isJob, Option.isSome_some])) only [jr_isJob, Option.isSome_some, Option.getD_some, Option.toList_some, Option.toList_none, List.cons_append, List.nil_append, E53_0, E53_1, E53_2, E53_5, E53_8, E53_9, E53_10, E53_13, E53_14, E53_17, E53_20, E53_21, E53_22, E53_23, E53_26, E53_27, E53_30, E53_31, E53_32, E53_35, E53_36, E53_39, E53_42, E53_43, E53_46, E53_47, E53_48, E53_49, E53_52, E53_53, E53_56, E53_59, E53_60, E53_61, E53_62, E53_63, E53_64, E53_65, jq_b0, if_true]
theorem jr_word {j i : Int32} : jv_run (d + 2) 54 [.ref m, .int j, .int i] (jr_H m rest z) = some (some (.long 0), jr_H m rest z) := by
  rw [N54]
  simp (disch := first | omega | exact id rfl | exact jd_i | exact jd_r | exact jd_n | exact jd_f | decide | (simp (disch := omega) only [jr_isJob, Option.isSome_some])) only [jr_isJob, Option.isSome_some, Option.getD_some, Option.toList_some, Option.toList_none, List.cons_append, List.nil_append, E54_0, E54_1, E54_2, E54_5, E54_8, E54_9, E54_12, E54_13, E54_14, E54_17, E54_18, E54_21, E54_24, E54_25, E54_28, E54_31, E54_32, E54_33, E54_34, E54_35, E54_36, E54_39, E54_40, jq_b0, if_true]
theorem jr_clock : jv_run (d + 1) 55 [.ref m] (jr_H m rest z) = some (some (.int (nI 0)), jr_H m rest z) := by
  rw [jx_clock]
  rfl
theorem jr_run {t : Int32} : jv_run (d + 2) 17 [.ref m, .int t] (jr_H m rest z) = some (some (.int (if t < 0 ∨ ¬ t ≤ nI 20000 then -1 else nI 0)), jr_H m rest z) := by
  have e := jx_notEnded (d := d) (m := m) (A := jm_A2 64) (L := jm_L0) (rest := rest) (z := z) (show 0 ≤ 12 by decide) (show jm_I0 5 = nI 0 from rfl)
  rw [N17]
  by_cases h1 : t < 0
  · simp (disch := first | omega | exact id rfl | exact jd_i | exact jd_r | exact jd_n | exact jd_f | decide) only [E17_0, E17_1, E17_11, E17_12, h1, if_true, true_or]
  · by_cases h2 : t ≤ nI 20000
    · simp (disch := first | omega | exact id rfl | exact jd_i | exact jd_r | exact jd_n | exact jd_f | decide) only [E17_0, E17_1, E17_4, E17_5, E17_8, E17_13, E17_14, h1, h2, if_true, if_false, not_true, or_self]
      rw [E17_15]
      simp (disch := first | omega | exact id rfl | exact jd_i | exact jd_r | exact jd_n | exact jd_f | decide | (simp (disch := omega) only [e, Option.isSome_some])) only [e, Option.isSome_some, Option.getD_some, Option.toList_some, Option.toList_none, List.cons_append, List.nil_append, E17_16, E17_17, E17_20, E17_21, E17_24, E17_37, E17_38, E17_41, if_pos (show nI (jq_cnt (jm_A2 64 8) 0) ≤ (0 : Int32) by decide)]
      split <;> rfl
    · simp (disch := first | omega | exact id rfl | exact jd_i | exact jd_r | exact jd_n | exact jd_f | decide) only [E17_0, E17_1, E17_4, E17_5, E17_8, E17_11, E17_12, h1, h2, if_false, not_false_eq_true, or_true, if_true]
theorem jr_told {w : Int32} : jv_run (d + 1) 56 [.ref m, .int w] (jr_H m rest z) = some (some (.int (if w = nI 7 then -1 else 0)), jr_H m rest z) := by
  rw [N56]
  simp (disch := first | omega | exact id rfl | exact jd_i | exact jd_r | exact jd_n | exact jd_f | decide) only [E56_0, E56_1, E56_2, E56_3]
  by_cases h7 : w = nI 7
  · subst h7
    rw [if_neg (by decide), if_neg (by decide), if_neg (by decide), if_neg (by decide), if_neg (by decide), if_neg (by decide), if_neg (by decide), if_pos rfl, if_pos rfl]
    simp (disch := first | omega | exact id rfl | exact jd_i | exact jd_r | exact jd_n | exact jd_f | decide) only [E56_112, E56_113, E56_116]
    rfl
  · rw [if_neg h7, if_neg h7]
    simp (disch := first | omega | exact id rfl | exact jd_i | exact jd_r | exact jd_n | exact jd_f | decide) only [E56_48, E56_49, E56_52, E56_53, E56_54, E56_57, E56_58, E56_59, E56_62, E56_63, E56_64, E56_67, E56_68, E56_69, E56_72, E56_73, E56_74, E56_77, E56_78, E56_79, E56_117, E56_118]
    (repeat' split)
    all_goals first
      | rfl
      | (rw [E56_80]; simp (disch := first | omega | exact id rfl | exact jd_i | exact jd_r | exact jd_n | exact jd_f | decide) only [E56_81, E56_82, E56_85, if_pos (show jm_I0 5 ≤ nI 0 by decide), E56_110, E56_111]; rfl)
theorem jr_sector {i : Int32} : jv_run (d + 1) 58 [.ref m, .int i] (jr_H m rest z) = some (some (.int (-1)), jr_H m rest z) := by
  rw [N58]
  by_cases h1 : i < 0
  · simp (disch := first | omega | exact id rfl | exact jd_i | exact jd_r | exact jd_n | exact jd_f | decide) only [E58_0, E58_1, E58_19, E58_20, h1, if_true]
  · by_cases h2 : nI 64 ≤ i
    · simp (disch := first | omega | exact id rfl | exact jd_i | exact jd_r | exact jd_n | exact jd_f | decide) only [E58_0, E58_1, E58_4, E58_5, E58_7, E58_19, E58_20, h1, h2, if_true, if_false]
    · obtain ⟨q, hq, rfl⟩ := nI_of h1
      have hq2 : q < 64 := by
        rcases Nat.lt_or_ge q 64 with h | h
        · exact h
        · exact absurd (nI_le h hq) h2
      simp (disch := first | omega | exact id rfl | exact jd_i | exact jd_r | exact jd_n | exact jd_f | decide) only [E58_0, E58_1, E58_4, E58_5, E58_7, E58_10, E58_11, E58_14, E58_15, E58_16, E58_19, E58_20, h1, h2, if_false, jr_28 hq2, if_neg (show ¬ (0 : Int32) ≤ -1 by decide)]
theorem jr_job {l n : Int32} : jv_run (d + 1) 6 [.ref m, .int l, .int n] (jr_H m rest z) = some (some (.int (-1)), jr_H m rest z) := by
  have hx : ¬ n < nI 1 → ¬ n ≤ jm_I0 2 := fun h1 h2 => h1 (Int32.lt_iff_toInt_lt.mpr (by
    have h3 := Int32.le_iff_toInt_le.mp h2
    have e0 : (jm_I0 2).toInt = 0 := by decide
    have e1 : (nI 1).toInt = 1 := by decide
    omega))
  rw [N6]
  simp (disch := first | omega | exact id rfl | exact jd_i | exact jd_r | exact jd_n | exact jd_f | decide) only [E6_0, E6_1, E6_4, E6_6, E6_9, E6_10, E6_11, E6_14, E6_15, E6_18, E6_21, E6_22, E6_23, E6_26, E6_27, E6_28, E6_31, E6_34, E6_35, if_neg (show ¬ jm_I0 5 = nI 12 by decide)]
  by_cases h1 : l < nI 1
  · rw [if_pos h1]
  · rw [if_neg h1]
    by_cases h2 : nI 10000 < l
    · rw [if_pos h2]
    · rw [if_neg h2]
      by_cases h3 : n < nI 1
      · rw [if_pos h3]
      · rw [if_neg h3, if_neg (hx h3)]
theorem jr_words {a0 a1 a2 a3 a4 : Int64} : ∃ I' L', jv_run (d + 2) 4 [.ref m, .long a0, .long a1, .long a2, .long a3, .long a4] (jr_H m rest z) = some (some (.int (nI 5)), jm_H m I' (jm_A2 64) L' rest z) := by
  have e2 : jm_I0 2 = nI 0 := rfl
  have key : ∃ h', jv_run (d + 2) 4 [.ref m, .long a0, .long a1, .long a2, .long a3, .long a4] (jr_H m rest z) = some (some (.int (nI 5)), h') ∧ ∃ I' L', h' = jm_H m I' (jm_A2 64) L' rest z := by
    refine ⟨jm_H m (upd jm_I0 2 (nI 5)) (jm_A2 64) (va_up (va_up (va_up (va_up (va_up jm_L0 1 (vp_updL (jm_L0 1) 0 (jq_w48 a0))) 1 (vp_updL (va_up jm_L0 1 (vp_updL (jm_L0 1) 0 (jq_w48 a0)) 1) 1 (jq_w48 a1))) 1 (vp_updL (va_up (va_up jm_L0 1 (vp_updL (jm_L0 1) 0 (jq_w48 a0))) 1 (vp_updL (va_up jm_L0 1 (vp_updL (jm_L0 1) 0 (jq_w48 a0)) 1) 1 (jq_w48 a1)) 1) 2 (jq_w48 a2))) 1 (vp_updL (va_up (va_up (va_up jm_L0 1 (vp_updL (jm_L0 1) 0 (jq_w48 a0))) 1 (vp_updL (va_up jm_L0 1 (vp_updL (jm_L0 1) 0 (jq_w48 a0)) 1) 1 (jq_w48 a1))) 1 (vp_updL (va_up (va_up jm_L0 1 (vp_updL (jm_L0 1) 0 (jq_w48 a0))) 1 (vp_updL (va_up jm_L0 1 (vp_updL (jm_L0 1) 0 (jq_w48 a0)) 1) 1 (jq_w48 a1)) 1) 2 (jq_w48 a2)) 1) 3 (jq_w48 a3))) 1 (vp_updL (va_up (va_up (va_up (va_up jm_L0 1 (vp_updL (jm_L0 1) 0 (jq_w48 a0))) 1 (vp_updL (va_up jm_L0 1 (vp_updL (jm_L0 1) 0 (jq_w48 a0)) 1) 1 (jq_w48 a1))) 1 (vp_updL (va_up (va_up jm_L0 1 (vp_updL (jm_L0 1) 0 (jq_w48 a0))) 1 (vp_updL (va_up jm_L0 1 (vp_updL (jm_L0 1) 0 (jq_w48 a0)) 1) 1 (jq_w48 a1)) 1) 2 (jq_w48 a2))) 1 (vp_updL (va_up (va_up (va_up jm_L0 1 (vp_updL (jm_L0 1) 0 (jq_w48 a0))) 1 (vp_updL (va_up jm_L0 1 (vp_updL (jm_L0 1) 0 (jq_w48 a0)) 1) 1 (jq_w48 a1))) 1 (vp_updL (va_up (va_up jm_L0 1 (vp_updL (jm_L0 1) 0 (jq_w48 a0))) 1 (vp_updL (va_up jm_L0 1 (vp_updL (jm_L0 1) 0 (jq_w48 a0)) 1) 1 (jq_w48 a1)) 1) 2 (jq_w48 a2)) 1) 3 (jq_w48 a3)) 1) 4 (jq_w48 a4))) rest z, ?_, _, _, rfl⟩
    rw [N4]
    simp (disch := first | omega | exact id rfl | exact jd_i | exact jd_r | exact jd_n | exact jd_f | decide | (simp (disch := omega) only [jx_word48, Option.isSome_some])) only [jx_word48, Option.isSome_some, Option.getD_some, Option.toList_some, Option.toList_none, List.cons_append, List.nil_append, E4_0, E4_1, E4_4, E4_5, E4_6, E4_9, E4_12, E4_13, E4_14, E4_15, E4_18, E4_19, E4_22, E4_23, E4_26, E4_27, E4_28, E4_31, E4_32, E4_35, E4_36, E4_37, E4_38, E4_41, E4_42, E4_43, E4_46, E4_47, E4_50, E4_51, E4_52, E4_54, E4_57, E4_58, E4_59, E4_62, E4_63, E4_66, E4_67, E4_68, E4_70, E4_73, E4_74, E4_75, E4_78, E4_79, E4_82, E4_83, E4_84, E4_86, E4_89, E4_90, E4_91, E4_91i, E4_92, E4_95, E4_96, E4_97, E4_100, E4_101, E4_104, e2, nI_add, Nat.reduceAdd, nI_leI, if_pos (show 5 ≤ 1000 by decide), pk_us, pk_un, va_up_self, va_up_ne]
  obtain ⟨h', h1, I', L', rfl⟩ := key
  exact ⟨I', L', h1⟩
end JR
