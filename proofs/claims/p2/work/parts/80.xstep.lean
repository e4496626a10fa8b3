/-! an order of a job -/
section JS2
variable {d m j : Nat} {I : Nat → Int32} {A : Nat → Nat → Int32} {L : Nat → Nat → Int64} {rest : Nat → Option jv_C} {z : Nat × Nat} {n J : Nat} {F S : Nat → Option Nat} {E : Nat → Bool} {q : List (Bool × Nat)} {w : Option (Bool × Nat × Nat)}
def jq_ord (p : Nat) : Bool := decide ((1 ≤ p ∧ p ≤ 12) ∨ (16 ≤ p ∧ p ≤ 29) ∨ (32 ≤ p ∧ p ≤ 34) ∨ (64 ≤ p ∧ p ≤ 68))
def jq_ww (p : Nat) : Bool := decide (p = 4 ∨ p = 5 ∨ (16 ≤ p ∧ p ≤ 22) ∨ p = 64 ∨ p = 65)
theorem jx_isOrder {p : Nat} {h : jv_H} (hp : p < 1024) : jv_run (d + 1) 32 [.int (nI p)] h = some (some (.int (jq_b (jq_ord p))), h) := by
  rw [N32]
  simp (disch := first | omega | exact id rfl | exact jd_i | exact jd_r | exact jd_n | exact jd_f | decide) only [E32_0, E32_1, E32_2, E32_5, E32_6, E32_8, E32_11, E32_12, E32_14, E32_17, E32_18, E32_20, E32_23, E32_24, E32_26, E32_29, E32_30, E32_32, E32_35, E32_36, E32_38, E32_41, E32_42, E32_44, E32_47, E32_48, E32_51, E32_52, nI_ltI, nI_leI]
  unfold jq_ord
  repeat' split
  all_goals first
    | (rw [decide_eq_true (by omega)]; rfl)
    | (rw [decide_eq_false (by omega)]; rfl)
theorem jx_isWithWord {p : Nat} {h : jv_H} (hp : p < 1024) : jv_run (d + 1) 33 [.int (nI p)] h = some (some (.int (jq_b (jq_ww p))), h) := by
  rw [N33]
  simp (disch := first | omega | exact id rfl | exact jd_i | exact jd_r | exact jd_n | exact jd_f | decide) only [E33_0, E33_1, E33_2, E33_5, E33_6, E33_7, E33_10, E33_11, E33_13, E33_16, E33_17, E33_19, E33_22, E33_23, E33_25, E33_28, E33_29, E33_31, E33_34, E33_35, E33_38, E33_39, nI_ltI, nI_leI, nI_eq]
  unfold jq_ww
  repeat' split
  all_goals first
    | (rw [decide_eq_true (by omega)]; rfl)
    | (rw [decide_eq_false (by omega)]; rfl)
theorem js_KI {k0 : Nat} {v : Int32} (hB : jr_B I A) (hk : ¬ k0 ∈ [0, 2, 4, 5, 22, 31, 32, 33, 34, 37]) (hb0 : jr_ib k0 = none) : jr_K I A (upd I k0 v) A := ⟨jr_bI hB (fun b hb => by rw [hb0] at hb; cases hb), fun k hk' => pk_un (fun e => hk (by rw [← e]; exact hk')), fun _ _ _ => rfl⟩
theorem js_vm : jk_V (jr_ρ m) (.inr (.inr (0, true))) (.ref m) := Or.inr ⟨m, rfl, by have := jr_ρ_at (m := m) (k := 0) (by decide); exact this⟩
theorem js_vi {ρ : jk_R} {p lo hi : Nat} (h1 : lo ≤ p) (h2 : p ≤ hi) (h3 : hi < 2 ^ 31) : jk_V ρ (.inl ((lo : Int), (hi : Int))) (.int (nI p)) := ⟨_, rfl, (jr_nb h1 h2 h3).1, (jr_nb h1 h2 h3).2⟩
theorem js_leaf_i {sg : jk_G} {call : jv_F} {y : Nat} {ats : List jk_T} {as : List Value} (S : jk_Sp jr_RT jr_pr sg call y) (hs : sg y = some (ats, some jk_top)) (hB : jr_B I A) (hV : jk_Vs (jr_ρ m) ats as) : ∃ x I' A' L', call y as (jm_H m I A L rest z) = some (some (.int x), jm_H m I' A' L' rest z) ∧ jr_K I A I' A' := by
  obtain ⟨r, I', A', L', e, K, hr⟩ := jr_leaf (L := L) (rest := rest) (z := z) S hs hB hV
  cases r with
  | none => exact hr.elim
  | some v =>
    obtain ⟨x, rfl, _⟩ := hr
    exact ⟨x, I', A', L', e, K⟩
theorem js_leaf_v {sg : jk_G} {call : jv_F} {y : Nat} {ats : List jk_T} {as : List Value} (S : jk_Sp jr_RT jr_pr sg call y) (hs : sg y = some (ats, none)) (hB : jr_B I A) (hV : jk_Vs (jr_ρ m) ats as) : ∃ I' A' L', call y as (jm_H m I A L rest z) = some (none, jm_H m I' A' L' rest z) ∧ jr_K I A I' A' := by
  obtain ⟨r, I', A', L', e, K, hr⟩ := jr_leaf (L := L) (rest := rest) (z := z) S hs hB hV
  cases r with
  | none => exact ⟨I', A', L', e, K⟩
  | some v => exact hr.elim
theorem js_reg {p a : Nat} {s t : Int32} (hj : j < 12) (hp1 : 1 ≤ p) (hp2 : p ≤ 12) (ha : a < 128) (hB : jr_B I A) (hs : jq_ww p = true → ∃ k, k < 1024 ∧ s = nI k) : ∃ x I' A' L', jv_run (d + 3) 41 [.ref m, .int (nI j), .int (nI p), .int (nI a), .int s, .int t] (jm_H m I A L rest z) = some (some (.int x), jm_H m I' A' L' rest z) ∧ jr_K I A I' A' := by
  by_cases c1 : p ≤ 3
  · exact js_leaf_i (jr_s41b d) rfl hB ⟨js_vm, js_vi (lo := 0) (hi := 11) (by omega) (by omega) (by decide), js_vi (lo := 1) (hi := 3) hp1 c1 (by decide), js_vi (lo := 0) (hi := 127) (by omega) (by omega) (by decide), jk_V_top, jk_V_top, True.intro⟩
  · by_cases c2 : 6 ≤ p
    · exact js_leaf_i (jr_s41c d) rfl hB ⟨js_vm, js_vi (lo := 0) (hi := 11) (by omega) (by omega) (by decide), js_vi (lo := 6) (hi := 12) c2 hp2 (by decide), js_vi (lo := 0) (hi := 127) (by omega) (by omega) (by decide), jk_V_top, jk_V_top, True.intro⟩
    · obtain ⟨k, hk, rfl⟩ := hs (by unfold jq_ww; rw [decide_eq_true_eq]; omega)
      exact js_leaf_i (jr_s41a d) rfl hB ⟨js_vm, js_vi (lo := 0) (hi := 11) (by omega) (by omega) (by decide), jk_V_top, js_vi (lo := 0) (hi := 127) (by omega) (by omega) (by decide), js_vi (lo := 0) (hi := 1023) (by omega) (by omega) (by decide), jk_V_top, True.intro⟩
theorem js_acc {p : Nat} {s t : Int32} (hj : j < 12) (hp1 : 16 ≤ p) (hp2 : p ≤ 31) (hB : jr_B I A) (hs : jq_ww p = true → ∃ k, k < 1024 ∧ s = nI k) : ∃ x I' A' L', jv_run (d + 3) 42 [.ref m, .int (nI j), .int (nI p), .int s, .int t] (jm_H m I A L rest z) = some (some (.int x), jm_H m I' A' L' rest z) ∧ jr_K I A I' A' := by
  by_cases c1 : 23 ≤ p
  · exact js_leaf_i (jr_s42b (d + 1)) rfl hB ⟨js_vm, js_vi (lo := 0) (hi := 11) (by omega) (by omega) (by decide), js_vi (lo := 23) (hi := 31) c1 hp2 (by decide), jk_V_top, jk_V_top, True.intro⟩
  · obtain ⟨k, hk, rfl⟩ := hs (by unfold jq_ww; rw [decide_eq_true_eq]; omega)
    exact js_leaf_i (jr_s42a (d + 1)) rfl hB ⟨js_vm, js_vi (lo := 0) (hi := 11) (by omega) (by omega) (by decide), jk_V_top, js_vi (lo := 0) (hi := 1023) (by omega) (by omega) (by decide), jk_V_top, True.intro⟩
/-- from 323: the count of orders, a round -/
theorem js_step5 {l1 l2 l3 l4 l5 l6 l7 l8 l9 l10 l11 : Option Value} (hT : js_T I A) : ∃ I' A' L', jv_ev (jv_run (d + 1)) 35 323 [some (.ref m), l1, l2, l3, l4, l5, l6, l7, l8, l9, l10, l11] [] (jm_H m I A L rest z) = some (none, jm_H m I' A' L' rest z) ∧ js_T I' A' ∧ I' 5 = I 5 := by
  have K1 : jr_K I A (upd I 43 (I 43 + nI 1)) A := js_KI hT.1 (by decide) rfl
  by_cases c : I 43 + nI 1 - (I 43 + nI 1) / nI 16 * nI 16 = 0
  · obtain ⟨I', A', L', e, K⟩ := js_leaf_v (m := m) (L := L) (rest := rest) (z := z) (as := [.ref m]) (jr_s47 d) rfl K1.1 ⟨js_vm, True.intro⟩
    refine ⟨I', A', L', ?_, js_KT (js_KT hT K1) K, (K.2.1 5 (by decide)).trans (K1.2.1 5 (by decide))⟩
    simp (disch := first | omega | exact id rfl | exact jd_i | exact jd_r | exact jd_n | exact jd_f | decide | (simp (disch := omega) only [e, Option.isSome_some])) only [e, Option.isSome_some, Option.getD_some, Option.toList_some, Option.toList_none, List.cons_append, List.nil_append, E35_323, E35_324, E35_324i, E35_325, E35_328, E35_329, E35_330, E35_333, E35_334, E35_337, E35_339, E35_340, E35_343, E35_344, E35_347, pk_us, c, not_true_eq_false, if_false]
  · refine ⟨_, _, L, ?_, js_KT hT K1, K1.2.1 5 (by decide)⟩
    simp (disch := first | omega | exact id rfl | exact jd_i | exact jd_r | exact jd_n | exact jd_f | decide) only [E35_323, E35_324, E35_324i, E35_325, E35_328, E35_329, E35_330, E35_333, E35_334, E35_337, E35_339, E35_340, E35_343, E35_344, E35_347, pk_us, c, not_false_eq_true, if_true]
/-- from 302: control -/
theorem js_step4 {l2 l3 l5 l6 l7 l8 l9 l10 : Option Value} {p : Nat} {t : Int32} (hj : j < J) (hp : p < 1024) (hX : js_X I A n J F S E q w) (h18 : A 18 j = nI 0) : ∃ I' A' L', jv_ev (jv_run (d + 2)) 35 302 [some (.ref m), some (.int (nI j)), l2, l3, some (.int (nI p)), l5, l6, l7, l8, l9, l10, some (.int t)] [] (jm_H m I A L rest z) = some (none, jm_H m I' A' L' rest z) ∧ js_T I' A' ∧ I' 5 = I 5 := by
  have hJ := hX.2.1.2.2.2.2.1
  have hX1 : js_X I (va_up A 9 (upd (A 9) j t)) n J F S E q w := by
    obtain ⟨hB, hR, hP, hW⟩ := hX
    exact ⟨jr_bA hB (fun b hb => by cases hb), hR, hP, hW⟩
  by_cases c : p = 34
  · subst c
    obtain ⟨I1, A1, r1, r2, r3⟩ := js_ends (d := d) (m := m) (L := L) (rest := rest) (z := z) (how := nI 1) hj hX1 h18
    obtain ⟨I', A', L', e, e2, e3⟩ := js_step5 (d := d + 1) (m := m) (L := L) (rest := rest) (z := z) (l1 := some (.int (nI j))) (l2 := l2) (l3 := l3) (l4 := some (.int (nI 34))) (l5 := l5) (l6 := l6) (l7 := l7) (l8 := l8) (l9 := l9) (l10 := l10) (l11 := some (.int t)) r2
    refine ⟨I', A', L', ?_, e2, e3.trans r3⟩
    rw [← e]
    simp (disch := first | omega | exact id rfl | exact jd_i | exact jd_r | exact jd_n | exact jd_f | decide | (simp (disch := omega) only [r1, Option.isSome_some])) only [r1, Option.isSome_some, Option.getD_some, Option.toList_some, Option.toList_none, List.cons_append, List.nil_append, E35_302, E35_303, E35_306, E35_307, E35_309, E35_310, E35_312, E35_314, E35_317, E35_318, E35_319, E35_320, not_true_eq_false, if_false]
  · obtain ⟨I', A', L', e, e2, e3⟩ := js_step5 (d := d + 1) (m := m) (L := L) (rest := rest) (z := z) (l1 := some (.int (nI j))) (l2 := l2) (l3 := l3) (l4 := some (.int (nI p))) (l5 := l5) (l6 := l6) (l7 := l7) (l8 := l8) (l9 := l9) (l10 := l10) (l11 := some (.int t)) (js_X_T hX1)
    refine ⟨I', A', L', ?_, e2, e3⟩
    rw [← e]
    simp (disch := first | omega | exact id rfl | exact jd_i | exact jd_r | exact jd_n | exact jd_f | decide) only [E35_302, E35_303, E35_306, E35_307, E35_309, E35_310, E35_312, E35_314, E35_317, E35_318, E35_319, E35_320, nI_eq, c, not_false_eq_true, if_true]
end JS2
