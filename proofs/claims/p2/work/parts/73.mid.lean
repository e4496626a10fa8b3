/-! the reference's choice of jobs and frames -/
section JL3
variable {d m : Nat} {I : Nat → Int32} {A : Nat → Nat → Int32} {L : Nat → Nat → Int64} {rest : Nat → Option jv_C} {z : Nat × Nat} {call : jv_F}
def jq_addr (a : Int32) : Bool := decide (¬ a < 0 ∧ ¬ nI 1024 ≤ a)
def jq_want (A : Nat → Nat → Int32) (n k : Nat) : Bool := jq_act A n (k / 64) && ((jq_addr (A 9 (k / 64)) && decide (nI 64 * nI (k / 64) + A 9 (k / 64) / nI 16 = nI k)) || (decide (¬ A 18 (k / 64) = 0) && decide (A 19 (k / 64) = nI k)))
theorem jx_isWanted {k n : Nat} (hk : k < 768) (hn : 1 ≤ n ∧ n ≤ 17) (hI : I 0 = nI n) : jv_run (d + 2) 16 [.ref m, .int (nI k)] (jm_H m I A L rest z) = some (some (.int (jq_b (jq_want A n k))), jm_H m I A L rest z) := by
  have hj : k / 64 < 12 := by omega
  have e1 : nI k / nI 64 = nI (k / 64) := pk_div (by omega) (by decide) (by decide)
  rw [N16]
  simp (disch := first | omega | exact id rfl | exact jd_i | exact jd_r | exact jd_n | exact jd_f | decide | (simp (disch := omega) only [jx_isActive hj hn hI, jx_isAddress, jx_blockOf, Option.isSome_some])) only [jx_isActive hj hn hI, jx_isAddress, jx_blockOf, Option.isSome_some, Option.getD_some, Option.toList_some, Option.toList_none, List.cons_append, List.nil_append, E16_0, E16_1, E16_3, E16_4, E16_5, E16_6, E16_7, E16_10, E16_13, E16_14, E16_15, E16_16, E16_19, E16_20, E16_21, E16_24, E16_27, E16_28, E16_29, E16_32, E16_33, E16_34, E16_37, E16_38, E16_41, E16_42, E16_45, E16_46, E16_47, E16_50, E16_51, E16_54, E16_55, E16_56, E16_57, E16_60, E16_61, E16_64, E16_65, e1, jq_b0, ite_not]
  unfold jq_want jq_addr
  cases h1 : jq_act A n (k / 64)
  · rfl
  · rw [if_neg (by decide)]
    by_cases h2 : decide (¬ A 9 (k / 64) < 0 ∧ ¬ nI 1024 ≤ A 9 (k / 64)) = false
    · rw [if_pos h2, h2]
      by_cases h3 : A 18 (k / 64) = 0
      · rw [if_pos h3]; simp only [h3, not_true, decide_false, Bool.false_and, Bool.or_self, Bool.and_false]; rfl
      · rw [if_neg h3]
        by_cases h4 : A 19 (k / 64) = nI k
        · rw [if_pos h4]; simp only [h3, h4, not_false_eq_true, decide_true, Bool.and_self, Bool.or_true, Bool.false_and]; rfl
        · rw [if_neg h4]; simp only [h4, decide_false, Bool.and_false, Bool.or_self, Bool.false_and]; rfl
    · rw [if_neg h2]
      have h2' : decide (¬ A 9 (k / 64) < 0 ∧ ¬ nI 1024 ≤ A 9 (k / 64)) = true := by simpa using h2
      rw [h2']
      by_cases h5 : nI 64 * nI (k / 64) + A 9 (k / 64) / nI 16 = nI k
      · rw [if_pos h5]; simp only [h5, decide_true, Bool.and_self, Bool.true_or]; rfl
      · rw [if_neg h5]
        by_cases h3 : A 18 (k / 64) = 0
        · rw [if_pos h3]; simp only [h3, h5, not_true, decide_false, Bool.false_and, Bool.or_self, Bool.and_false]; rfl
        · rw [if_neg h3]
          by_cases h4 : A 19 (k / 64) = nI k
          · rw [if_pos h4]; simp only [h3, h4, h5, not_false_eq_true, decide_true, decide_false, Bool.and_self, Bool.or_true, Bool.and_false]; rfl
          · rw [if_neg h4]; simp only [h4, h5, decide_false, Bool.and_false, Bool.or_self]; rfl
def jq_go (A : Nat → Nat → Int32) (n : Nat) (FR : Nat → Option Nat) (f : Nat) : Bool := match FR f with
  | none => false
  | some k => decide (A 26 f = 0) && !jq_want A n k
theorem jx_mayGo {f n : Nat} {FR : Nat → Option Nat} (hf : f < 17) (hF : A 23 f = jq_o (FR f)) (hk : ∀ k, FR f = some k → k < 768) (hn : 1 ≤ n ∧ n ≤ 17) (hI : I 0 = nI n) : jv_run (d + 3) 23 [.ref m, .int (nI f)] (jm_H m I A L rest z) = some (some (.int (jq_b (jq_go A n FR f))), jm_H m I A L rest z) := by
  rw [N23]
  unfold jq_go
  cases h1 : FR f with
  | none =>
    rw [h1] at hF
    simp (disch := first | omega | exact id rfl | exact jd_i | exact jd_r | exact jd_n | exact jd_f | decide) only [E23_0, E23_1, E23_4, E23_5, E23_6, hF, if_pos (show jq_o none < 0 by decide), E23_35, E23_36]
    rfl
  | some k =>
    rw [h1] at hF
    have hkk := hk k h1
    have h2 : ¬ jq_o (some k) < 0 := nI_pos (by omega)
    have h3 : jq_o (some k) = nI k := rfl
    rw [h3] at hF h2
    simp (disch := first | omega | exact id rfl | exact jd_i | exact jd_r | exact jd_n | exact jd_f | decide | (simp (disch := omega) only [jx_isWanted hkk hn hI, Option.isSome_some])) only [jx_isWanted hkk hn hI, Option.isSome_some, Option.getD_some, Option.toList_some, Option.toList_none, List.cons_append, List.nil_append, E23_0, E23_1, E23_4, E23_5, E23_6, E23_9, E23_10, E23_13, E23_14, E23_15, E23_18, E23_19, E23_20, E23_23, E23_24, E23_25, E23_28, E23_31, E23_32, E23_35, E23_36, hF, if_neg h2, jq_b0, ite_not]
    by_cases h4 : A 26 f = 0
    · rw [if_pos h4]
      cases h5 : jq_want A n k
      · simp only [h4, decide_true, Bool.not_false, Bool.and_self, if_true]; rfl
      · simp only [h4, decide_true, Bool.not_true, Bool.and_false, Bool.true_eq_false, if_false]; rfl
    · rw [if_neg h4]
      simp only [h4, decide_false, Bool.false_and]
      rfl
def jq_pass (c s : Nat) : Nat := c + (2 * (s % 16) + 32 - c % 32) % 32
theorem jx_passes {c s : Nat} (hc : c < 2 ^ 30) (hs : s < 64) (hI : I 36 = nI c) : jv_run (d + 1) 27 [.ref m, .int (nI s)] (jm_H m I A L rest z) = some (some (.int (nI (jq_pass c s))), jm_H m I A L rest z) := by
  have e1 : nI s - nI s / nI 16 * nI 16 = nI (s % 16) := pk_rem (by omega) (by decide) (by decide)
  have e2 : nI c - nI c / nI 32 * nI 32 = nI (c % 32) := pk_rem (by omega) (by decide) (by decide)
  have e3 : nI 2 * nI (s % 16) = nI (2 * (s % 16)) := pk_mul _ _
  have e4 : nI (2 * (s % 16)) - nI (c % 32) + nI 32 = nI (2 * (s % 16) + 32 - c % 32) := by
    have h1 : nI (2 * (s % 16) + 32) - nI (c % 32) = nI (2 * (s % 16) + 32 - c % 32) := pk_sub (by omega)
    rw [← h1, ← nI_add]
    rw [Int32.sub_eq_add_neg, Int32.sub_eq_add_neg, Int32.add_assoc, Int32.add_assoc, Int32.add_comm (-nI (c % 32))]
  have e5 : nI (2 * (s % 16) + 32 - c % 32) - nI (2 * (s % 16) + 32 - c % 32) / nI 32 * nI 32 = nI ((2 * (s % 16) + 32 - c % 32) % 32) := pk_rem (by omega) (by decide) (by decide)
  rw [N27]
  simp (disch := first | omega | exact id rfl | exact jd_i | exact jd_r | exact jd_n | exact jd_f | decide) only [E27_0, E27_1, E27_2, E27_4, E27_5, E27_6, E27_7, E27_8, E27_11, E27_12, E27_13, E27_16, E27_18, E27_19, E27_20, E27_22, E27_23, E27_25, E27_26, E27_27, hI, e1, e2, e3, e4, e5, nI_add]
  rfl
end JL3
