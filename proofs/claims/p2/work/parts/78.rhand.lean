/-! the reference's small methods that the checker doesn't take -/
section JR
variable {d m j : Nat} {I : Nat → Int32} {A : Nat → Nat → Int32} {L : Nat → Nat → Int64} {rest : Nat → Option jv_C} {z : Nat × Nat}
theorem jr_nat {x : Int32} {n : Nat} (h : 0 ≤ x.toInt ∧ x.toInt ≤ (n : Int)) : ∃ p, p ≤ n ∧ x = nI p := by
  obtain ⟨p, hp, rfl⟩ := nI_of (x := x) (fun q => by have := jh_lt0.mp q; omega)
  rw [nI_toInt hp] at h
  exact ⟨p, by omega, rfl⟩
theorem jr_nb {p lo hi : Nat} (h1 : lo ≤ p) (h2 : p ≤ hi) (h3 : hi < 2 ^ 31) : ((lo : Int) ≤ (nI p).toInt ∧ (nI p).toInt ≤ (hi : Int)) := by
  rw [nI_toInt (by omega)]
  omega
theorem jr_prints {c : Int32} (hj : j < 12) (hB : jr_B I A) : ∃ b A', jv_run (d + 1) 38 [.ref m, .int (nI j), .int c] (jm_H m I A L rest z) = some (some (.int b), jm_H m I A' L rest z) ∧ (b = nI 0 ∨ b = nI 1) ∧ jr_K I A I A' := by
  obtain ⟨p, hp, e⟩ := jr_nat (n := 400) (hB.2 17 _ rfl j)
  rw [N38]
  by_cases h : p = 400
  · subst h
    refine ⟨nI 0, A, ?_, Or.inl rfl, jr_K_rf hB⟩
    simp (disch := first | omega | exact id rfl | exact jd_i | exact jd_r | exact jd_n | exact jd_f | decide | (simp (disch := omega) only [e, Option.isSome_some])) only [e, Option.isSome_some, Option.getD_some, Option.toList_some, Option.toList_none, List.cons_append, List.nil_append, E38_0, E38_1, E38_4, E38_5, E38_6, E38_9, E38_12, E38_13, not_true_eq_false, if_false]
  · have h1 : ¬ nI p = nI 400 := by rw [nI_eq (by omega) (by decide)]; exact h
    refine ⟨nI 1, va_up (va_up A 16 (upd (A 16) (400 * j + p) c)) 17 (upd (A 17) j (nI (p + 1))), ?_, Or.inr rfl, ?_⟩
    · simp (disch := first | omega | exact id rfl | exact jd_i | exact jd_r | exact jd_n | exact jd_f | decide | (simp (disch := omega) only [e, h1, pk_mul, nI_add, va_up_ne, va_up_self, Option.isSome_some])) only [e, h1, pk_mul, nI_add, va_up_ne, va_up_self, Option.isSome_some, Option.getD_some, Option.toList_some, Option.toList_none, List.cons_append, List.nil_append, E38_0, E38_1, E38_4, E38_5, E38_6, E38_9, E38_12, E38_13, E38_14, E38_15, E38_18, E38_21, E38_22, E38_23, E38_24, E38_27, E38_28, E38_29, E38_30, E38_31, E38_32, E38_33, E38_36, E38_37, E38_38, E38_39, E38_40, E38_41, E38_42, E38_43, not_false_eq_true, if_true]
    · refine jr_K_tr (jr_K_u (k := 16) (i := 400 * j + p) (v := c) hB (by decide) (fun b hb => by cases hb)) ?_
      have hB' : jr_B I (va_up A 16 (upd (A 16) (400 * j + p) c)) := jr_bu hB (fun b hb => by cases hb)
      have := jr_K_u (k := 17) (i := j) (v := nI (p + 1)) hB' (by decide) (fun b hb => by cases hb; exact jr_nb (lo := 0) (hi := 400) (by omega) (by omega) (by decide))
      rw [jz_un (f := A) (k := 16) (j := 17) (by decide)] at this
      exact this
theorem jr_next {s t : Nat} (hj : j < 12) (hs : s ≤ 2000) (e1 : A 15 j = nI t) (e2 : A 14 j = nI s) (ht : t ≤ 2000) : jv_run (d + 1) 43 [.ref m, .int (nI j)] (jm_H m I A L rest z) = some (some (.int (if s ≤ t then -1 else A 13 (2000 * j + t))), jm_H m I A L rest z) := by
  rw [N43]
  by_cases h : s ≤ t
  · have h1 : nI s ≤ nI t := by rw [nI_leI (by omega) (by omega)]; exact h
    simp (disch := first | omega | exact id rfl | exact jd_i | exact jd_r | exact jd_n | exact jd_f | decide | (simp (disch := omega) only [e1, e2, h1, h, Option.isSome_some])) only [e1, e2, h1, h, Option.isSome_some, Option.getD_some, Option.toList_some, Option.toList_none, List.cons_append, List.nil_append, E43_0, E43_1, E43_4, E43_5, E43_6, E43_7, E43_10, E43_11, E43_12, E43_15, E43_16, E43_19, E43_22, E43_23, E43_24, E43_25, E43_28, E43_29, E43_30, E43_31, E43_32, E43_35, E43_36, if_true]
  · have h1 : ¬ nI s ≤ nI t := by rw [nI_leI (by omega) (by omega)]; exact h
    simp (disch := first | omega | exact id rfl | exact jd_i | exact jd_r | exact jd_n | exact jd_f | decide | (simp (disch := omega) only [e1, e2, h1, h, pk_mul, nI_add, Option.isSome_some])) only [e1, e2, h1, h, pk_mul, nI_add, Option.isSome_some, Option.getD_some, Option.toList_some, Option.toList_none, List.cons_append, List.nil_append, E43_0, E43_1, E43_4, E43_5, E43_6, E43_7, E43_10, E43_11, E43_12, E43_15, E43_16, E43_19, E43_22, E43_23, E43_24, E43_25, E43_28, E43_29, E43_30, E43_31, E43_32, E43_35, E43_36, if_false]
/-! the root -/
theorem jr_b2 : ∀ t, t < 24 → jh_b (t + 1) / 2 = jh_b t := by decide +kernel
theorem jr_root_l {call : jv_F} {h : jv_H} {v : Int64} : ∀ t, t ≤ 24 → ∀ (r : Int64), ∃ r', jv_ev call 46 7 [some (.long v), none, some (.long r), none, some (.long (jh_b t)), none] [] h = some (some (.long r'), h)
  | 0, _, r => by
    refine ⟨r, ?_⟩
    have hb : jh_b 0 = 0 := rfl
    simp (disch := first | omega | exact id rfl | exact jd_i | exact jd_r | exact jd_n | exact jd_f | decide | (simp (disch := omega) only [hb, Option.isSome_some])) only [hb, Option.isSome_some, Option.getD_some, Option.toList_some, Option.toList_none, List.cons_append, List.nil_append, E46_7, E46_9, E46_10, E46_11, E46_44, E46_45, if_pos (show lg_cmp 0 0 ≤ 0 by decide)]
  | t + 1, ht, r => by
    obtain ⟨_, hb2⟩ := jh_b1 t (by omega)
    have hb1 := jr_b2 t (by omega)
    have h20 : ¬ (2 : Int64) = 0 := by decide
    rw [E46_7]
    by_cases h2 : (0 : Int32) < lg_cmp ((r + jh_b (t + 1)) * (r + jh_b (t + 1))) v
    · obtain ⟨r', ih⟩ := jr_root_l (call := call) (h := h) (v := v) t (by omega) r
      refine ⟨r', ?_⟩
      rw [← ih]
      simp (disch := first | omega | exact id rfl | exact jd_i | exact jd_r | exact jd_n | exact jd_f | decide | (simp (disch := omega) only [hb1, hb2, h2, h20, Option.isSome_some])) only [hb1, hb2, h2, h20, Option.isSome_some, Option.getD_some, Option.toList_some, Option.toList_none, List.cons_append, List.nil_append, E46_9, E46_10, E46_11, E46_14, E46_15, E46_17, E46_18, E46_19, E46_21, E46_22, E46_23, E46_24, E46_25, E46_28, E46_29, E46_31, E46_32, E46_33, E46_35, E46_38, E46_39, E46_41, if_true, if_false]
    · obtain ⟨r', ih⟩ := jr_root_l (call := call) (h := h) (v := v) t (by omega) (r + jh_b (t + 1))
      refine ⟨r', ?_⟩
      rw [← ih]
      simp (disch := first | omega | exact id rfl | exact jd_i | exact jd_r | exact jd_n | exact jd_f | decide | (simp (disch := omega) only [hb1, hb2, h2, h20, Option.isSome_some])) only [hb1, hb2, h2, h20, Option.isSome_some, Option.getD_some, Option.toList_some, Option.toList_none, List.cons_append, List.nil_append, E46_9, E46_10, E46_11, E46_14, E46_15, E46_17, E46_18, E46_19, E46_21, E46_22, E46_23, E46_24, E46_25, E46_28, E46_29, E46_31, E46_32, E46_33, E46_35, E46_38, E46_39, E46_41, if_true, if_false]
theorem jr_root {v : Int64} {h : jv_H} : ∃ r, jv_run (d + 1) 46 [.long v] h = some (some (.long r), h) := by
  obtain ⟨r, ih⟩ := jr_root_l (call := jv_run d) (h := h) (v := v) 24 (Nat.le_refl _) 0
  refine ⟨r, ?_⟩
  have hb : jh_b 24 = (8388608 : Int64) := by decide +kernel
  rw [hb] at ih
  rw [← ih, N46]
  simp (disch := first | omega | exact id rfl | exact jd_i | exact jd_r | exact jd_n | exact jd_f | decide | (simp (disch := omega) only [nI_add, Option.isSome_some])) only [nI_add, Option.isSome_some, Option.getD_some, Option.toList_some, Option.toList_none, List.cons_append, List.nil_append, E46_0, E46_1, E46_2, E46_5]
/-! a number's digits -/
theorem jr_t10 {v : Int64} : (v / 10).toInt.natAbs = v.toInt.natAbs / 10 := by
  rw [Int64.toInt_div]
  have e10 : (10 : Int64).toInt = 10 := by decide
  rw [e10]
  have h1 := v.le_toInt
  have h2 := v.toInt_lt
  have h3 : (v.toInt.tdiv 10).natAbs = v.toInt.natAbs / 10 := Int.natAbs_tdiv _ _
  rw [Int.bmod_eq_of_le (by omega) (by omega), h3]
theorem jr_z {v : Int64} (h : ¬ lg_cmp v 0 = 0) : 1 ≤ v.toInt.natAbs := by
  by_cases e : v.toInt = 0
  · exact absurd (by rw [show v = 0 from Int64.toInt_inj.mp (e.trans (by decide))]; decide) h
  · omega
theorem jr_dig {call : jv_F} {h : jv_H} {l0 l1 l2 : Option Value} {x3 : Int32} : ∀ (e : Nat) (v : Int64) (k : Nat), v.toInt.natAbs < 10 ^ e → ∃ k' v', k ≤ k' ∧ k' ≤ k + e ∧ jv_ev call 37 131 [l0, l1, l2, some (.int x3), some (.int (nI k)), some (.long v), none] [] h = jv_ev call 37 152 [l0, l1, l2, some (.int x3), some (.int (nI k')), some (.long v'), none] [] h
  | 0, v, k, hv => by
    refine ⟨k, v, Nat.le_refl _, Nat.le_refl _, ?_⟩
    have hc : lg_cmp v 0 = 0 := Decidable.byContradiction fun q => by have := jr_z q; omega
    simp (disch := first | omega | exact id rfl | exact jd_i | exact jd_r | exact jd_n | exact jd_f | decide | (simp (disch := omega) only [hc, Option.isSome_some])) only [hc, Option.isSome_some, Option.getD_some, Option.toList_some, Option.toList_none, List.cons_append, List.nil_append, E37_131, E37_133, E37_134, E37_135, if_true]
  | e + 1, v, k, hv => by
    have h10 : ¬ (10 : Int64) = 0 := by decide
    by_cases hc : lg_cmp v 0 = 0
    · refine ⟨k, v, Nat.le_refl _, by omega, ?_⟩
      simp (disch := first | omega | exact id rfl | exact jd_i | exact jd_r | exact jd_n | exact jd_f | decide | (simp (disch := omega) only [hc, Option.isSome_some])) only [hc, Option.isSome_some, Option.getD_some, Option.toList_some, Option.toList_none, List.cons_append, List.nil_append, E37_131, E37_133, E37_134, E37_135, if_true]
    · obtain ⟨k', v', h1, h2, ih⟩ := jr_dig e (v / 10) (k + 1) (by rw [jr_t10]; rw [Nat.pow_succ] at hv; omega)
      refine ⟨k', v', by omega, by omega, ?_⟩
      rw [← ih, E37_131]
      simp (disch := first | omega | exact id rfl | exact jd_i | exact jd_r | exact jd_n | exact jd_f | decide | (simp (disch := omega) only [hc, h10, nI_add, Option.isSome_some])) only [hc, h10, nI_add, Option.isSome_some, Option.getD_some, Option.toList_some, Option.toList_none, List.cons_append, List.nil_append, E37_133, E37_134, E37_135, E37_138, E37_141, E37_143, E37_146, E37_147, E37_149, if_false]
theorem jr_dig2 {call : jv_F} {h : jv_H} {l0 l1 l2 : Option Value} {x3 : Int32} : ∀ (e : Nat) (v : Int64) (k : Nat), v.toInt.natAbs < 10 ^ e → ∃ k' v', k ≤ k' ∧ k' ≤ k + e ∧ jv_ev call 44 150 [l0, l1, l2, some (.int x3), some (.int (nI k)), some (.long v), none] [] h = jv_ev call 44 171 [l0, l1, l2, some (.int x3), some (.int (nI k')), some (.long v'), none] [] h
  | 0, v, k, hv => by
    refine ⟨k, v, Nat.le_refl _, Nat.le_refl _, ?_⟩
    have hc : lg_cmp v 0 = 0 := Decidable.byContradiction fun q => by have := jr_z q; omega
    simp (disch := first | omega | exact id rfl | exact jd_i | exact jd_r | exact jd_n | exact jd_f | decide | (simp (disch := omega) only [hc, Option.isSome_some])) only [hc, Option.isSome_some, Option.getD_some, Option.toList_some, Option.toList_none, List.cons_append, List.nil_append, E44_150, E44_152, E44_153, E44_154, if_true]
  | e + 1, v, k, hv => by
    have h10 : ¬ (10 : Int64) = 0 := by decide
    by_cases hc : lg_cmp v 0 = 0
    · refine ⟨k, v, Nat.le_refl _, by omega, ?_⟩
      simp (disch := first | omega | exact id rfl | exact jd_i | exact jd_r | exact jd_n | exact jd_f | decide | (simp (disch := omega) only [hc, Option.isSome_some])) only [hc, Option.isSome_some, Option.getD_some, Option.toList_some, Option.toList_none, List.cons_append, List.nil_append, E44_150, E44_152, E44_153, E44_154, if_true]
    · obtain ⟨k', v', h1, h2, ih⟩ := jr_dig2 e (v / 10) (k + 1) (by rw [jr_t10]; rw [Nat.pow_succ] at hv; omega)
      refine ⟨k', v', by omega, by omega, ?_⟩
      rw [← ih, E44_150]
      simp (disch := first | omega | exact id rfl | exact jd_i | exact jd_r | exact jd_n | exact jd_f | decide | (simp (disch := omega) only [hc, h10, nI_add, Option.isSome_some])) only [hc, h10, nI_add, Option.isSome_some, Option.getD_some, Option.toList_some, Option.toList_none, List.cons_append, List.nil_append, E44_152, E44_153, E44_154, E44_157, E44_160, E44_162, E44_165, E44_166, E44_168, if_false]
theorem jr_d18 {v : Int64} : (v / 10).toInt.natAbs < 10 ^ 18 := by
  rw [jr_t10]
  have h1 := v.le_toInt
  have h2 := v.toInt_lt
  have : v.toInt.natAbs ≤ 2 ^ 63 := by omega
  omega
end JR
