/-! more of the reference's small methods -/
theorem jq_b0 (b : Bool) : (jq_b b = 0) = (b = false) := by cases b <;> decide
theorem jq_o0 (o : Option Nat) (ho : ∀ q, o = some q → q < 2 ^ 31) : (jq_o o < 0) = (o = none) := by
  cases o with
  | none => decide
  | some q =>
    have h1 : ¬ jq_o (some q) < 0 := nI_pos (ho q rfl)
    simp [h1]
theorem jq_fi_some {f : Nat → Int32} {k : Int32} : ∀ {t i q : Nat}, jq_fi f k i t = some q → i ≤ q ∧ q < i + t ∧ f q = k ∧ ∀ p, i ≤ p → p < q → ¬ f p = k
  | 0, i, q, h => by cases h
  | t + 1, i, q, h => by
    unfold jq_fi at h
    split at h
    · rename_i hk
      cases h
      exact ⟨Nat.le_refl _, by omega, hk, fun p h1 h2 => by omega⟩
    · rename_i hk
      obtain ⟨h1, h2, h3, h4⟩ := jq_fi_some h
      refine ⟨by omega, by omega, h3, fun p q1 q2 => ?_⟩
      by_cases hp : p = i
      · rw [hp]; exact hk
      · exact h4 p (by omega) q2
theorem jq_fi_none {f : Nat → Int32} {k : Int32} : ∀ {t i : Nat}, jq_fi f k i t = none → ∀ p, i ≤ p → p < i + t → ¬ f p = k
  | 0, i, h, p, h1, h2 => by omega
  | t + 1, i, h, p, h1, h2 => by
    unfold jq_fi at h
    split at h
    · cases h
    · rename_i hk
      by_cases hp : p = i
      · rw [hp]; exact hk
      · exact jq_fi_none h p (by omega) (by omega)
section JL2
variable {d m : Nat} {I : Nat → Int32} {A : Nat → Nat → Int32} {L : Nat → Nat → Int64} {rest : Nat → Option jv_C} {z : Nat × Nat} {call : jv_F}
def jq_leave (A : Nat → Nat → Int32) (f : Nat) : Nat → Nat → Int32 := va_up (va_up (va_up (va_up (va_up A 23 (upd (A 23) f (-1))) 26 (upd (A 26) f (nI 0))) 27 (upd (A 27) f (nI 0))) 24 (upd (A 24) f (nI 0))) 25 (upd (A 25) f (nI 0))
theorem jx_leave {f : Nat} (hf : f < 17) : jv_run (d + 1) 20 [.ref m, .int (nI f)] (jm_H m I A L rest z) = some (none, jm_H m I (jq_leave A f) L rest z) := by
  rw [N20]
  simp (disch := first | omega | exact id rfl | exact jd_i | exact jd_r | exact jd_n | exact jd_f | decide) only [E20_0, E20_1, E20_4, E20_5, E20_6, E20_7, E20_8, E20_11, E20_12, E20_13, E20_14, E20_15, E20_18, E20_19, E20_20, E20_21, E20_22, E20_25, E20_26, E20_27, E20_28, E20_29, E20_32, E20_33, E20_34, E20_35]
  rfl
def jq_ask (A : Nat → Nat → Int32) (n : Nat) (what : Int32) (f : Nat) : Nat → Nat → Int32 := va_up (va_up (va_up A 26 (upd (A 26) f (nI 1))) 29 (upd (A 29) n what)) 30 (upd (A 30) n (nI f))
theorem jx_ask {what : Int32} {f n : Nat} (hf : f < 17) (hn : n < 18) (hI : I 31 = nI n) : jv_run (d + 1) 25 [.ref m, .int what, .int (nI f)] (jm_H m I A L rest z) = some (none, jm_H m (upd I 31 (nI (n + 1))) (jq_ask A n what f) L rest z) := by
  rw [N25]
  simp (disch := first | omega | exact id rfl | exact jd_i | exact jd_r | exact jd_n | exact jd_f | decide) only [E25_0, E25_1, E25_4, E25_5, E25_6, E25_7, E25_8, E25_11, E25_12, E25_15, E25_16, E25_17, E25_18, E25_21, E25_22, E25_25, E25_26, E25_27, E25_28, E25_28i, E25_29, E25_32, E25_33, E25_34, E25_37, hI, nI_add]
  rfl
def jq_sh (f : Nat → Int32) (k n : Nat) : Nat → Int32 := fun i => if k ≤ i ∧ i < n then f (i + 1) else f i
theorem jq_sh_0 (f : Nat → Int32) (k : Nat) : jq_sh f k k = f := by funext i; unfold jq_sh; rw [if_neg (by omega)]
theorem jq_sh_s (f : Nat → Int32) {k i : Nat} (h : k ≤ i) : upd (jq_sh f k i) i (jq_sh f k i (i + 1)) = jq_sh f k (i + 1) := by
  funext j
  unfold upd jq_sh
  by_cases hj : j = i
  · subst hj; rw [if_pos rfl, if_neg (by omega), if_pos (by omega)]
  · rw [if_neg hj]
    by_cases h1 : k ≤ j ∧ j < i
    · rw [if_pos h1, if_pos (by omega)]
    · rw [if_neg h1, if_neg (by omega)]
def jq_drop (A : Nat → Nat → Int32) (k n : Nat) : Nat → Nat → Int32 := va_up (va_up A 29 (jq_sh (A 29) k n)) 30 (jq_sh (A 30) k n)
theorem jx_drop_l {k n : Nat} (hn : n < 17) (hI : I 31 = nI n) : ∀ (t i : Nat), k ≤ i → i + t = n → jv_ev call 26 12 [some (.ref m), some (.int (nI k)), some (.int (nI i))] [] (jm_H m I (jq_drop A k i) L rest z) = some (none, jm_H m I (jq_drop A k n) L rest z)
  | 0, i, hk, hi => by
    have e : i = n := by omega
    subst e
    rw [E26_12]
    simp (disch := first | omega | exact id rfl | exact jd_i | exact jd_r | exact jd_n | exact jd_f | decide) only [E26_0, E26_1, E26_1i, E26_2, E26_5, E26_6, E26_7, E26_10, E26_11, E26_13, E26_14, E26_17, E26_20, E26_21, E26_24, E26_25, E26_26, E26_29, E26_30, E26_31, E26_32, E26_33, E26_34, E26_35, E26_38, E26_39, E26_40, E26_43, E26_44, E26_45, E26_46, E26_47, E26_48, E26_51, E26_54, hI, nI_leI, if_pos (Nat.le_refl i)]
  | t + 1, i, hk, hi => by
    have ih := jx_drop_l (k := k) hn hI t (i + 1) (by omega) (by omega)
    rw [E26_12]
    simp (disch := first | omega | exact id rfl | exact jd_i | exact jd_r | exact jd_n | exact jd_f | decide) only [E26_0, E26_1, E26_1i, E26_2, E26_5, E26_6, E26_7, E26_10, E26_11, E26_13, E26_14, E26_17, E26_20, E26_21, E26_24, E26_25, E26_26, E26_29, E26_30, E26_31, E26_32, E26_33, E26_34, E26_35, E26_38, E26_39, E26_40, E26_43, E26_44, E26_45, E26_46, E26_47, E26_48, E26_51, E26_54, hI, nI_leI, if_neg (show ¬ n ≤ i by omega), nI_add]
    have e : (va_up (va_up (jq_drop A k i) 29 (upd (jq_drop A k i 29) i (jq_drop A k i 29 (i + 1)))) 30 (upd (va_up (jq_drop A k i) 29 (upd (jq_drop A k i 29) i (jq_drop A k i 29 (i + 1))) 30) i (va_up (jq_drop A k i) 29 (upd (jq_drop A k i 29) i (jq_drop A k i 29 (i + 1))) 30 (i + 1)))) = jq_drop A k (i + 1) := by
      funext q
      unfold jq_drop va_up
      by_cases h1 : q = 30
      · subst h1
        simp only [if_true, show ¬ (30 : Nat) = 29 by decide, if_false]
        exact jq_sh_s (A 30) hk
      · by_cases h2 : q = 29
        · subst h2
          simp only [if_true, show ¬ (29 : Nat) = 30 by decide, if_false]
          exact jq_sh_s (A 29) hk
        · simp only [h1, h2, if_false]
    rw [e]
    exact ih
theorem jx_drop {k n : Nat} (hk : k ≤ n) (hn : n < 17) (hI : I 31 = nI (n + 1)) : jv_run (d + 1) 26 [.ref m, .int (nI k)] (jm_H m I A L rest z) = some (none, jm_H m (upd I 31 (nI n)) (jq_drop A k n) L rest z) := by
  rw [N26]
  have e1 : nI (n + 1) - nI 1 = nI n := by rw [pk_sub (by omega)]; rfl
  simp (disch := first | omega | exact id rfl | exact jd_i | exact jd_r | exact jd_n | exact jd_f | decide) only [E26_0, E26_1, E26_2, E26_5, E26_6, E26_7, E26_10, E26_11, hI, e1]
  have e2 : jq_drop A k k = A := by
    funext q
    unfold jq_drop va_up
    by_cases h1 : q = 30
    · subst h1; simp only [if_true, jq_sh_0]
    · by_cases h2 : q = 29
      · subst h2; simp only [if_true, show ¬ (29 : Nat) = 30 by decide, if_false, jq_sh_0]
      · simp only [h1, h2, if_false]
  have := jx_drop_l (call := jv_run d) (m := m) (I := upd I 31 (nI n)) (A := A) (L := L) (rest := rest) (z := z) (k := k) hn rfl (n - k) k (Nat.le_refl k) (by omega)
  rw [e2] at this
  exact this
theorem jx_writeAsked_l {n : Nat} (hn : n ≤ 18) (hI : I 31 = nI n) : ∀ (t i : Nat), i + t = n → jv_ev call 19 2 [some (.ref m), some (.int (nI i))] [] (jm_H m I A L rest z) = some (some (.int (jq_b (jq_fi (A 29) (nI 2) i t).isSome)), jm_H m I A L rest z)
  | 0, i, hi => by
    rw [E19_2]
    simp (disch := first | omega | exact id rfl | exact jd_i | exact jd_r | exact jd_n | exact jd_f | decide) only [E19_0, E19_1, E19_3, E19_4, E19_7, E19_10, E19_11, E19_14, E19_15, E19_16, E19_17, E19_20, E19_21, E19_22, E19_25, E19_28, E19_29, hI, nI_leI, if_pos (show n ≤ i by omega), jq_fi, Option.isSome_none]
    rfl
  | t + 1, i, hi => by
    rw [E19_2]
    simp (disch := first | omega | exact id rfl | exact jd_i | exact jd_r | exact jd_n | exact jd_f | decide) only [E19_0, E19_1, E19_3, E19_4, E19_7, E19_10, E19_11, E19_14, E19_15, E19_16, E19_17, E19_20, E19_21, E19_22, E19_25, E19_28, E19_29, hI, nI_leI, if_neg (show ¬ n ≤ i by omega), jq_fi, nI_add, jx_writeAsked_l hn hI t (i + 1) (by omega), ite_not]
    by_cases h1 : A 29 i = nI 2 <;> simp only [h1, if_true, if_false, Option.isSome_some]
    rfl
theorem jx_writeAsked {n : Nat} (hn : n ≤ 18) (hI : I 31 = nI n) : jv_run (d + 1) 19 [.ref m] (jm_H m I A L rest z) = some (some (.int (jq_b (jq_fi (A 29) (nI 2) 0 n).isSome)), jm_H m I A L rest z) := by
  rw [N19]
  simp (disch := first | omega | exact id rfl | exact jd_i | exact jd_r | exact jd_n | exact jd_f | decide) only [E19_0, E19_1, jx_writeAsked_l hn hI n 0 (Nat.zero_add n)]
def jq_rdy (A : Nat → Nat → Int32) (n j : Nat) : Bool := if A 18 j = 0 then true else if A 18 j = nI 2 then (jq_fi (A 23) (-1) 0 n).isSome else match jq_fi (A 23) (A 19 j) 0 n with
  | none => true
  | some q => decide (A 26 q = 0)
theorem jx_isReady {j n : Nat} (hj : j < 12) (hn : n ≤ 17) (hI : I 0 = nI n) : jv_run (d + 3) 13 [.ref m, .int (nI j)] (jm_H m I A L rest z) = some (some (.int (jq_b (jq_rdy A n j))), jm_H m I A L rest z) := by
  rw [N13]
  simp (disch := first | omega | exact id rfl | exact jd_i | exact jd_r | exact jd_n | exact jd_f | decide | (simp (disch := omega) only [jx_frameOf hn hI, jx_freeFrame hn hI, Option.isSome_some])) only [jx_frameOf hn hI, jx_freeFrame hn hI, Option.isSome_some, Option.getD_some, Option.toList_some, Option.toList_none, List.cons_append, List.nil_append, E13_0, E13_1, E13_4, E13_5, E13_6, E13_9, E13_10, E13_11, E13_12, E13_15, E13_16, E13_17, E13_18, E13_21, E13_22, E13_25, E13_28, E13_29, E13_32, E13_33, E13_34, E13_35, E13_36, E13_39, E13_40, E13_41, E13_44, E13_45, E13_46, E13_49, E13_50, ite_not]
  unfold jq_rdy
  by_cases h1 : A 18 j = 0
  · rw [if_pos h1, if_pos h1]; rfl
  · rw [if_neg h1, if_neg h1]
    by_cases h2 : A 18 j = nI 2
    · rw [if_pos h2, if_pos h2]
      cases ho : jq_fi (A 23) (-1) 0 n with
      | none => rfl
      | some q =>
        have h3 := (jq_fi_some ho).2.1
        rw [if_neg (show ¬ jq_o (some q) < 0 from nI_pos (by omega))]
        rfl
    · rw [if_neg h2, if_neg h2]
      cases ho : jq_fi (A 23) (A 19 j) 0 n with
      | none =>
        rw [if_pos (show jq_o none < 0 by decide)]
        simp (disch := first | omega | exact id rfl | exact jd_i | exact jd_r | exact jd_n | exact jd_f | decide) only [E13_58, E13_59, E13_63]
        rfl
      | some q =>
        have h3 := (jq_fi_some ho).2.1
        rw [if_neg (show ¬ jq_o (some q) < 0 from nI_pos (by omega))]
        simp only [jq_o]
        simp (disch := first | omega | exact id rfl | exact jd_i | exact jd_r | exact jd_n | exact jd_f | decide) only [E13_53, E13_54, E13_55, E13_58, E13_59, E13_62, E13_63, ite_not]
        by_cases h4 : A 26 q = 0
        · rw [if_pos h4, decide_eq_true h4]; rfl
        · rw [if_neg h4, decide_eq_false h4]; rfl
end JL2
