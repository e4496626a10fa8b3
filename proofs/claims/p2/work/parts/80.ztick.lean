/-! a tick, a run -/
section JS2
variable {d m : Nat} {I : Nat → Int32} {A : Nat → Nat → Int32} {L : Nat → Nat → Int64} {rest : Nat → Option jv_C} {z : Nat × Nat} {n J : Nat} {F S : Nat → Option Nat} {E : Nat → Bool} {q : List (Bool × Nat)} {w : Option (Bool × Nat × Nat)}
theorem js_tick1 (hT : js_T I A) : ∃ I' A', jv_ev (jv_run (d + 2)) 18 0 [some (.ref m), none] [] (jm_H m I A L rest z) = jv_ev (jv_run (d + 2)) 18 22 [some (.ref m), none] [] (jm_H m I' A' L rest z) ∧ js_T I' A' ∧ I' 5 = I 5 := by
  by_cases c1 : I 32 = 0
  · refine ⟨I, A, ?_, hT, rfl⟩
    simp (disch := first | omega | exact id rfl | exact jd_i | exact jd_r | exact jd_n | exact jd_f | decide) only [E18_0, E18_1, E18_4, if_pos c1]
  · by_cases c2 : I 35 = I 36
    · obtain ⟨I', A', e, e2, e3⟩ := js_finish (d := d) (m := m) (L := L) (rest := rest) (z := z) hT (fun e => c1 (by rw [e]; decide))
      refine ⟨I', A', ?_, e2, e3⟩
      have c2' : ¬ ¬ I 35 = I 36 := fun h => h c2
      simp (disch := first | omega | exact id rfl | exact jd_i | exact jd_r | exact jd_n | exact jd_f | decide | (simp (disch := omega) only [e, Option.isSome_some])) only [e, Option.isSome_some, Option.getD_some, Option.toList_some, Option.toList_none, List.cons_append, List.nil_append, E18_0, E18_1, E18_4, E18_7, E18_8, E18_11, E18_12, E18_15, E18_18, E18_19, if_neg c1, if_neg c2']
    · refine ⟨I, A, ?_, hT, rfl⟩
      simp (disch := first | omega | exact id rfl | exact jd_i | exact jd_r | exact jd_n | exact jd_f | decide) only [E18_0, E18_1, E18_4, E18_7, E18_8, E18_11, E18_12, E18_15, E18_18, E18_19, if_neg c1, if_pos c2]
theorem js_tick2 (hT : js_T I A) : ∃ I' A', jv_ev (jv_run (d + 4)) 18 22 [some (.ref m), none] [] (jm_H m I A L rest z) = jv_ev (jv_run (d + 4)) 18 48 [some (.ref m), none] [] (jm_H m I' A' L rest z) ∧ js_T I' A' ∧ I' 5 = I 5 := by
  obtain ⟨n, J, F, S, E, q, w, hX⟩ := js_T_X hT
  have hlen := jz_len hX.2.2.1
  have ff := jx_freeFrame (d := d + 2) (m := m) (A := A) (L := L) (rest := rest) (z := z) hX.2.1.2.2.1 hX.2.1.1
  have wa := jx_writeAsked (d := d + 3) (m := m) (A := A) (L := L) (rest := rest) (z := z) (n := q.length) (by have := hX.2.1.2.2.1; omega) hX.2.1.2.2.2.2.2.2.2.2.2.1
  generalize jq_o (jq_fi (A 23) (-1) 0 n) = x at ff
  generalize jq_b (jq_fi (A 29) (nI 2) 0 q.length).isSome = y at wa
  by_cases c1 : 0 ≤ x
  · refine ⟨I, A, ?_, hT, rfl⟩
    simp (disch := first | omega | exact id rfl | exact jd_i | exact jd_r | exact jd_n | exact jd_f | decide | (simp (disch := omega) only [ff, Option.isSome_some])) only [ff, Option.isSome_some, Option.getD_some, Option.toList_some, Option.toList_none, List.cons_append, List.nil_append, E18_22, E18_23, E18_26, E18_29, E18_30, E18_33, E18_36, E18_37, E18_40, E18_41, E18_44, E18_45, if_pos c1]
  · by_cases c2 : ¬ y = 0
    · refine ⟨I, A, ?_, hT, rfl⟩
      simp (disch := first | omega | exact id rfl | exact jd_i | exact jd_r | exact jd_n | exact jd_f | decide | (simp (disch := omega) only [ff, wa, Option.isSome_some])) only [ff, wa, Option.isSome_some, Option.getD_some, Option.toList_some, Option.toList_none, List.cons_append, List.nil_append, E18_22, E18_23, E18_26, E18_29, E18_30, E18_33, E18_36, E18_37, E18_40, E18_41, E18_44, E18_45, if_neg c1, if_pos c2]
    · by_cases c3 : I 32 = nI 2
      · refine ⟨I, A, ?_, hT, rfl⟩
        simp (disch := first | omega | exact id rfl | exact jd_i | exact jd_r | exact jd_n | exact jd_f | decide | (simp (disch := omega) only [ff, wa, Option.isSome_some])) only [ff, wa, Option.isSome_some, Option.getD_some, Option.toList_some, Option.toList_none, List.cons_append, List.nil_append, E18_22, E18_23, E18_26, E18_29, E18_30, E18_33, E18_36, E18_37, E18_40, E18_41, E18_44, E18_45, if_neg c1, if_neg c2, if_pos c3]
      · obtain ⟨I', A', e, e2, e3⟩ := js_choose (d := d) (m := m) (L := L) (rest := rest) (z := z) hT
        refine ⟨I', A', ?_, e2, e3⟩
        simp (disch := first | omega | exact id rfl | exact jd_i | exact jd_r | exact jd_n | exact jd_f | decide | (simp (disch := omega) only [ff, wa, e, Option.isSome_some])) only [ff, wa, e, Option.isSome_some, Option.getD_some, Option.toList_some, Option.toList_none, List.cons_append, List.nil_append, E18_22, E18_23, E18_26, E18_29, E18_30, E18_33, E18_36, E18_37, E18_40, E18_41, E18_44, E18_45, if_neg c1, if_neg c2, if_neg c3]
theorem js_tick3 (hT : js_T I A) : ∃ I' A', jv_ev (jv_run (d + 2)) 18 48 [some (.ref m), none] [] (jm_H m I A L rest z) = jv_ev (jv_run (d + 2)) 18 66 [some (.ref m), none] [] (jm_H m I' A' L rest z) ∧ js_T I' A' ∧ I' 5 = I 5 := by
  by_cases c1 : I 32 = 0
  · have c1' : ¬ ¬ I 32 = 0 := fun h => h c1
    by_cases c2 : I 31 ≤ 0
    · refine ⟨I, A, ?_, hT, rfl⟩
      simp (disch := first | omega | exact id rfl | exact jd_i | exact jd_r | exact jd_n | exact jd_f | decide) only [E18_48, E18_49, E18_52, E18_55, E18_56, E18_59, E18_62, E18_63, if_neg c1', if_pos c2]
    · obtain ⟨I', A', e, e2, e3⟩ := js_begin (d := d) (m := m) (L := L) (rest := rest) (z := z) hT (by rw [c1]; decide) c2
      refine ⟨I', A', ?_, e2, e3⟩
      simp (disch := first | omega | exact id rfl | exact jd_i | exact jd_r | exact jd_n | exact jd_f | decide | (simp (disch := omega) only [e, Option.isSome_some])) only [e, Option.isSome_some, Option.getD_some, Option.toList_some, Option.toList_none, List.cons_append, List.nil_append, E18_48, E18_49, E18_52, E18_55, E18_56, E18_59, E18_62, E18_63, if_neg c1', if_neg c2]
  · refine ⟨I, A, ?_, hT, rfl⟩
    simp (disch := first | omega | exact id rfl | exact jd_i | exact jd_r | exact jd_n | exact jd_f | decide) only [E18_48, E18_49, E18_52, E18_55, E18_56, E18_59, E18_62, E18_63, if_pos c1]
theorem js_tick4 {l1 : Option Value} (hT : js_T I A) : ∃ I' A', jv_ev (jv_run d) 18 98 [some (.ref m), l1] [] (jm_H m I A L rest z) = some (none, jm_H m I' A' L rest z) ∧ js_T I' A' ∧ I' 5 = I 5 := by
  have K1 : jr_K I A (upd I 36 (I 36 + nI 1)) A := js_KI hT.1 (by decide) rfl
  refine ⟨_, _, ?_, js_KT hT K1, K1.2.1 5 (by decide)⟩
  simp (disch := first | omega | exact id rfl | exact jd_i | exact jd_r | exact jd_n | exact jd_f | decide) only [E18_98, E18_99, E18_99i, E18_100, E18_103, E18_104, E18_105, E18_108]
theorem js_tick (hT : js_T I A) : ∃ I' A' L', jv_run (d + 5) 18 [.ref m] (jm_H m I A L rest z) = some (none, jm_H m I' A' L' rest z) ∧ js_T I' A' ∧ I' 5 = I 5 := by
  obtain ⟨I1, A1, a1, a2, a3⟩ := js_tick1 (d := d + 2) (m := m) (L := L) (rest := rest) (z := z) hT
  obtain ⟨I2, A2, b1, b2, b3⟩ := js_tick2 (d := d) (m := m) (L := L) (rest := rest) (z := z) a2
  obtain ⟨I3, A3, c1, c2, c3⟩ := js_tick3 (d := d + 2) (m := m) (L := L) (rest := rest) (z := z) b2
  rw [N18, a1, b1, c1]
  obtain ⟨n, J, F, S, E, q, w, hX⟩ := js_T_X c2
  obtain ⟨r, e, hr⟩ := js_next (d := d) (m := m) (L := L) (rest := rest) (z := z) hX
  have i5 : I3 5 = I 5 := c3.trans (b3.trans a3)
  rcases hr with rfl | ⟨j, hj, rfl, hrdy⟩
  · have K1 : jr_K I3 A3 (upd I3 41 (I3 41 + nI 1)) A3 := js_KI hX.1 (by decide) rfl
    obtain ⟨I', A', f1, f2, f3⟩ := js_tick4 (d := d + 4) (m := m) (L := L) (rest := rest) (z := z) (l1 := some (.int (-1))) (js_KT c2 K1)
    refine ⟨I', A', L, ?_, f2, f3.trans ((K1.2.1 5 (by decide)).trans i5)⟩
    rw [← f1]
    have m2 : ¬ 0 ≤ (-1 : Int32) := by decide
    simp (disch := first | omega | exact id rfl | exact jd_i | exact jd_r | exact jd_n | exact jd_f | decide | (simp (disch := omega) only [e, Option.isSome_some])) only [e, Option.isSome_some, Option.getD_some, Option.toList_some, Option.toList_none, List.cons_append, List.nil_append, E18_66, E18_67, E18_70, E18_71, E18_72, E18_75, E18_76, E18_76i, E18_77, E18_80, E18_81, E18_82, E18_85, E18_88, E18_89, E18_90, E18_93, E18_94, E18_95, if_neg m2]
  · have hJ := hX.2.1.2.2.2.2.1
    have hX2 : js_X (upd I3 37 (nI j)) A3 n J F S E q w := by
      obtain ⟨hB, ⟨h1, h2, h3, h4, h5, h6, h7, h8, h9, h10, h11, h12, h13, h14, h15⟩, hP, hW⟩ := hX
      exact ⟨jr_bI hB (fun b hb => by cases hb; exact ⟨by rw [nI_toInt (by omega)]; simp only; omega, by rw [nI_toInt (by omega)]; simp only; omega⟩), ⟨h1, h2, h3, h4, h5, h6, h7, h8, h9, h10, h11, h12, h13, h14, Or.inr ⟨j, hj, rfl⟩⟩, hP, hW⟩
    obtain ⟨I4, A4, L4, g1, g2, g3⟩ := js_step (d := d) (m := m) (L := L) (rest := rest) (z := z) hj hX2 hrdy
    obtain ⟨I', A', f1, f2, f3⟩ := js_tick4 (d := d + 4) (m := m) (L := L4) (rest := rest) (z := z) (l1 := some (.int (nI j))) g2
    refine ⟨I', A', L4, ?_, f2, f3.trans (g3.trans i5)⟩
    rw [← f1]
    simp (disch := first | omega | exact id rfl | exact jd_i | exact jd_r | exact jd_n | exact jd_f | decide | (simp (disch := omega) only [e, g1, Option.isSome_some])) only [e, g1, Option.isSome_some, Option.getD_some, Option.toList_some, Option.toList_none, List.cons_append, List.nil_append, E18_66, E18_67, E18_70, E18_71, E18_72, E18_75, E18_76, E18_76i, E18_77, E18_80, E18_81, E18_82, E18_85, E18_88, E18_89, E18_90, E18_93, E18_94, E18_95, if_pos (nI_pos' (show j < 2 ^ 31 by omega))]
theorem js_notEnded (hT : js_T I A) : ∃ x, jv_run (d + 1) 11 [.ref m] (jm_H m I A L rest z) = some (some (.int x), jm_H m I A L rest z) := by
  obtain ⟨n, J, F, S, E, q, w, hX⟩ := js_T_X hT
  exact ⟨_, jx_notEnded hX.2.1.2.2.2.2.1 hX.2.1.2.2.2.1⟩
theorem js_run_e {l1 l2 : Option Value} (hT : js_T I A) : ∃ x, jv_ev (jv_run (d + 1)) 17 37 [some (.ref m), l1, l2] [] (jm_H m I A L rest z) = some (some (.int x), jm_H m I A L rest z) := by
  obtain ⟨x, e⟩ := js_notEnded (d := d) (m := m) (L := L) (rest := rest) (z := z) hT
  refine ⟨x, ?_⟩
  simp (disch := first | omega | exact id rfl | exact jd_i | exact jd_r | exact jd_n | exact jd_f | decide | (simp (disch := omega) only [e, Option.isSome_some])) only [e, Option.isSome_some, Option.getD_some, Option.toList_some, Option.toList_none, List.cons_append, List.nil_append, E17_37, E17_38, E17_41]
theorem js_run_l {y : Int32} (hy : y ≤ nI 20000) : ∀ (t i : Nat), i + t = 20000 → ∀ (I : Nat → Int32) (A : Nat → Nat → Int32) (L : Nat → Nat → Int64), js_T I A → ∃ x I' A' L', jv_ev (jv_run (d + 5)) 17 15 [some (.ref m), some (.int y), some (.int (nI i))] [] (jm_H m I A L rest z) = some (some (.int x), jm_H m I' A' L' rest z) ∧ js_T I' A' ∧ I' 5 = I 5
  | 0, i, hi, I, A, L, hT => by
    have hi : i = 20000 := by omega
    subst hi
    obtain ⟨x, e⟩ := js_run_e (d := d + 4) (m := m) (L := L) (rest := rest) (z := z) (l1 := some (.int y)) (l2 := some (.int (nI 20000))) hT
    refine ⟨x, I, A, L, ?_, hT, rfl⟩
    rw [E17_15]
    simp (disch := first | omega | exact id rfl | exact jd_i | exact jd_r | exact jd_n | exact jd_f | decide) only [E17_16, E17_17, if_pos hy]
    exact e
  | t + 1, i, hi, I, A, L, hT => by
    obtain ⟨x, e⟩ := js_run_e (d := d + 4) (m := m) (L := L) (rest := rest) (z := z) (l1 := some (.int y)) (l2 := some (.int (nI i))) hT
    obtain ⟨x2, e2⟩ := js_notEnded (d := d + 4) (m := m) (L := L) (rest := rest) (z := z) hT
    rw [E17_15]
    by_cases c1 : y ≤ nI i
    · refine ⟨x, I, A, L, ?_, hT, rfl⟩
      simp (disch := first | omega | exact id rfl | exact jd_i | exact jd_r | exact jd_n | exact jd_f | decide) only [E17_16, E17_17, if_pos c1]
      exact e
    · by_cases c2 : x2 ≤ 0
      · refine ⟨x, I, A, L, ?_, hT, rfl⟩
        simp (disch := first | omega | exact id rfl | exact jd_i | exact jd_r | exact jd_n | exact jd_f | decide | (simp (disch := omega) only [e2, Option.isSome_some])) only [e2, Option.isSome_some, Option.getD_some, Option.toList_some, Option.toList_none, List.cons_append, List.nil_append, E17_16, E17_17, E17_20, E17_21, E17_24, if_neg c1, if_pos c2]
        exact e
      · obtain ⟨I1, A1, L1, t1, t2, t3⟩ := js_tick (d := d) (m := m) (L := L) (rest := rest) (z := z) hT
        obtain ⟨x', I', A', L', k1, k2, k3⟩ := js_run_l hy t (i + 1) (by omega) I1 A1 L1 t2
        refine ⟨x', I', A', L', ?_, k2, k3.trans t3⟩
        rw [← k1]
        simp (disch := first | omega | exact id rfl | exact jd_i | exact jd_r | exact jd_n | exact jd_f | decide | (simp (disch := omega) only [e2, t1, Option.isSome_some])) only [e2, t1, Option.isSome_some, Option.getD_some, Option.toList_some, Option.toList_none, List.cons_append, List.nil_append, E17_16, E17_17, E17_20, E17_21, E17_24, E17_27, E17_28, E17_31, E17_34, if_neg c1, if_neg c2, nI_add]
theorem js_run {y : Int32} (hT : js_T I A) : ∃ x I' A' L', jv_run (d + 6) 17 [.ref m, .int y] (jm_H m I A L rest z) = some (some (.int x), jm_H m I' A' L' rest z) ∧ js_T I' A' ∧ I' 5 = I 5 := by
  rw [N17]
  by_cases c1 : y < 0
  · refine ⟨-1, I, A, L, ?_, hT, rfl⟩
    simp (disch := first | omega | exact id rfl | exact jd_i | exact jd_r | exact jd_n | exact jd_f | decide) only [E17_0, E17_1, E17_4, E17_5, E17_8, E17_11, E17_12, E17_13, E17_14, if_pos c1]
  · by_cases c2 : y ≤ nI 20000
    · obtain ⟨x', I', A', L', k1, k2, k3⟩ := js_run_l (d := d) (m := m) (rest := rest) (z := z) c2 20000 0 (by omega) I A L hT
      refine ⟨x', I', A', L', ?_, k2, k3⟩
      rw [← k1]
      simp (disch := first | omega | exact id rfl | exact jd_i | exact jd_r | exact jd_n | exact jd_f | decide) only [E17_0, E17_1, E17_4, E17_5, E17_8, E17_11, E17_12, E17_13, E17_14, if_neg c1, if_pos c2]
    · refine ⟨-1, I, A, L, ?_, hT, rfl⟩
      simp (disch := first | omega | exact id rfl | exact jd_i | exact jd_r | exact jd_n | exact jd_f | decide) only [E17_0, E17_1, E17_4, E17_5, E17_8, E17_11, E17_12, E17_13, E17_14, if_neg c1, if_neg c2]
end JS2
