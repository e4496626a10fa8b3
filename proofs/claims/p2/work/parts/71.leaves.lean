/-! the reference's small methods, as functions of its numbers and rows -/
section JL
variable {d m : Nat} {I : Nat → Int32} {A : Nat → Nat → Int32} {L : Nat → Nat → Int64} {rest : Nat → Option jv_C} {z : Nat × Nat} {call : jv_F}
def jq_w48 (v : Int64) : Int64 := (v <<< ((nI 16).toInt64 &&& 63)) >>> ((nI 16).toInt64 &&& 63)
def jq_w24 (v : Int64) : Int32 := (v.toInt32 <<< (nI 8 &&& 31)) >>> (nI 8 &&& 31)
theorem jx_word48 {v : Int64} {h : jv_H} : jv_run (d + 1) 1 [.long v] h = some (some (.long (jq_w48 v)), h) := by
  rw [N1]
  simp only [E1_0, E1_1, E1_3, E1_4, E1_6, E1_7, jq_w48]
theorem jx_word24 {v : Int64} {h : jv_H} : jv_run (d + 1) 2 [.long v] h = some (some (.int (jq_w24 v)), h) := by
  rw [N2]
  simp only [E2_0, E2_1, E2_2, E2_4, E2_5, E2_7, E2_8, jq_w24]
theorem jx_frames {f : Int32} : jv_run (d + 1) 3 [.ref m, .int f] (jm_H m I A L rest z) = if f < nI 3 ∨ nI 17 < f ∨ ¬ I 5 ≤ 0 then some (some (.int (-1)), jm_H m I A L rest z) else some (some (.int f), jm_H m (upd I 0 f) A L rest z) := by
  rw [N3]
  simp only [E3_0, E3_1, E3_2, E3_5, E3_6, E3_8, E3_11, E3_12, E3_15, E3_18, E3_19, E3_20, E3_21, E3_22, E3_25, E3_26]
  by_cases h1 : f < nI 3
  · simp only [h1, if_true, true_or]
  · by_cases h2 : nI 17 < f
    · simp only [h1, h2, if_true, if_false, true_or, false_or]
    · by_cases h3 : I 5 ≤ 0
      · simp only [h1, h2, h3, if_true, if_false, not_true, or_self]
      · simp only [h1, h2, h3, if_true, if_false, not_false_eq_true, or_true]
theorem jx_exist {k : Nat} (hk : k < 768) : jv_run (d + 1) 7 [.ref m, .int (nI k)] (jm_H m I A L rest z) = some (none, jm_H m (upd I 22 (I 22 + nI 1)) (va_up A 20 (upd (A 20) k (nI 1))) L rest z) := by
  rw [N7]
  simp (disch := first | omega | exact id rfl | exact jd_i | exact jd_r | exact jd_n | exact jd_f | decide) only [E7_0, E7_1, E7_4, E7_5, E7_6, E7_7, E7_8, E7_8i, E7_9, E7_12, E7_13, E7_14, E7_17]
theorem jx_vanish {k : Nat} (hk : k < 768) : jv_run (d + 1) 22 [.ref m, .int (nI k)] (jm_H m I A L rest z) = some (none, jm_H m (upd I 22 (I 22 - nI 1)) (va_up A 20 (upd (A 20) k (nI 0))) L rest z) := by
  rw [N22]
  simp (disch := first | omega | exact id rfl | exact jd_i | exact jd_r | exact jd_n | exact jd_f | decide) only [E22_0, E22_1, E22_4, E22_5, E22_6, E22_7, E22_8, E22_8i, E22_9, E22_12, E22_13, E22_14, E22_17]
/-- the first of t places from i on that holds k -/
def jq_fi (f : Nat → Int32) (k : Int32) : Nat → Nat → Option Nat
  | _, 0 => none
  | i, t + 1 => if f i = k then some i else jq_fi f k (i + 1) t
def jq_o (o : Option Nat) : Int32 := match o with
  | none => -1
  | some q => nI q
def jq_b (b : Bool) : Int32 := if b then nI 1 else nI 0
theorem jx_frameOf_l {k : Int32} {n : Nat} (hn : n ≤ 17) (hI : I 0 = nI n) : ∀ (t i : Nat), i + t = n → jv_ev call 8 2 [some (.ref m), some (.int k), some (.int (nI i))] [] (jm_H m I A L rest z) = some (some (.int (jq_o (jq_fi (A 23) k i t))), jm_H m I A L rest z)
  | 0, i, hi => by
    rw [E8_2]
    simp (disch := first | omega | exact id rfl | exact jd_i | exact jd_r | exact jd_n | exact jd_f | decide) only [E8_0, E8_1, E8_3, E8_4, E8_7, E8_10, E8_11, E8_14, E8_15, E8_16, E8_17, E8_20, E8_21, E8_22, E8_25, E8_28, E8_29, hI, nI_leI, if_pos (show n ≤ i by omega), jq_fi, jq_o]
  | t + 1, i, hi => by
    rw [E8_2]
    simp (disch := first | omega | exact id rfl | exact jd_i | exact jd_r | exact jd_n | exact jd_f | decide) only [E8_0, E8_1, E8_3, E8_4, E8_7, E8_10, E8_11, E8_14, E8_15, E8_16, E8_17, E8_20, E8_21, E8_22, E8_25, E8_28, E8_29, hI, nI_leI, if_neg (show ¬ n ≤ i by omega), jq_fi, nI_add, jx_frameOf_l hn hI t (i + 1) (by omega), ite_not]
    by_cases h1 : A 23 i = k <;> simp only [h1, if_true, if_false, jq_o]
theorem jx_frameOf {k : Int32} {n : Nat} (hn : n ≤ 17) (hI : I 0 = nI n) : jv_run (d + 1) 8 [.ref m, .int k] (jm_H m I A L rest z) = some (some (.int (jq_o (jq_fi (A 23) k 0 n))), jm_H m I A L rest z) := by
  rw [N8]
  simp (disch := first | omega | exact id rfl | exact jd_i | exact jd_r | exact jd_n | exact jd_f | decide) only [E8_0, E8_1, jx_frameOf_l hn hI n 0 (Nat.zero_add n)]
theorem jx_sectorOf_l {k : Int32} : ∀ (t i : Nat), i + t = 64 → jv_ev call 9 2 [some (.ref m), some (.int k), some (.int (nI i))] [] (jm_H m I A L rest z) = some (some (.int (jq_o (jq_fi (A 28) k i t))), jm_H m I A L rest z)
  | 0, i, hi => by
    rw [E9_2]
    simp (disch := first | omega | exact id rfl | exact jd_i | exact jd_r | exact jd_n | exact jd_f | decide) only [E9_0, E9_1, E9_3, E9_5, E9_8, E9_9, E9_12, E9_13, E9_14, E9_15, E9_18, E9_19, E9_20, E9_23, E9_26, E9_27, nI_leI, if_pos (show 64 ≤ i by omega), jq_fi, jq_o]
  | t + 1, i, hi => by
    rw [E9_2]
    simp (disch := first | omega | exact id rfl | exact jd_i | exact jd_r | exact jd_n | exact jd_f | decide) only [E9_0, E9_1, E9_3, E9_5, E9_8, E9_9, E9_12, E9_13, E9_14, E9_15, E9_18, E9_19, E9_20, E9_23, E9_26, E9_27, nI_leI, if_neg (show ¬ 64 ≤ i by omega), jq_fi, nI_add, jx_sectorOf_l t (i + 1) (by omega), ite_not]
    by_cases h1 : A 28 i = k <;> simp only [h1, if_true, if_false, jq_o]
theorem jx_sectorOf {k : Int32} : jv_run (d + 1) 9 [.ref m, .int k] (jm_H m I A L rest z) = some (some (.int (jq_o (jq_fi (A 28) k 0 64))), jm_H m I A L rest z) := by
  rw [N9]
  simp (disch := first | omega | exact id rfl | exact jd_i | exact jd_r | exact jd_n | exact jd_f | decide) only [E9_0, E9_1, jx_sectorOf_l 64 0 rfl]
theorem jx_freeFrame {n : Nat} (hn : n ≤ 17) (hI : I 0 = nI n) : jv_run (d + 2) 10 [.ref m] (jm_H m I A L rest z) = some (some (.int (jq_o (jq_fi (A 23) (-1) 0 n))), jm_H m I A L rest z) := by
  rw [N10]
  simp (disch := first | omega | exact id rfl | exact jd_i | exact jd_r | exact jd_n | exact jd_f | decide | (simp (disch := omega) only [jx_frameOf hn hI, Option.isSome_some])) only [jx_frameOf hn hI, Option.isSome_some, Option.getD_some, Option.toList_some, Option.toList_none, List.cons_append, List.nil_append, E10_0, E10_1, E10_2, E10_5]
def jq_cnt (f : Nat → Int32) : Nat → Nat
  | 0 => 0
  | n + 1 => jq_cnt f n + if f n = 0 then 1 else 0
theorem jx_notEnded_l {n : Nat} (hn : n ≤ 12) (hI : I 5 = nI n) : ∀ (t i : Nat), i + t = n → jv_ev call 11 4 [some (.ref m), some (.int (nI (jq_cnt (A 8) i))), some (.int (nI i))] [] (jm_H m I A L rest z) = some (some (.int (nI (jq_cnt (A 8) n))), jm_H m I A L rest z)
  | 0, i, hi => by
    have e : i = n := by omega
    subst e
    rw [E11_4]
    simp (disch := first | omega | exact id rfl | exact jd_i | exact jd_r | exact jd_n | exact jd_f | decide) only [E11_0, E11_1, E11_2, E11_3, E11_5, E11_6, E11_9, E11_12, E11_13, E11_14, E11_17, E11_18, E11_19, E11_22, E11_23, E11_26, E11_27, E11_28, E11_29, E11_32, E11_35, E11_36, hI, nI_leI, if_pos (Nat.le_refl i)]
  | t + 1, i, hi => by
    have ih := jx_notEnded_l hn hI t (i + 1) (by omega)
    rw [E11_4]
    simp (disch := first | omega | exact id rfl | exact jd_i | exact jd_r | exact jd_n | exact jd_f | decide) only [E11_0, E11_1, E11_2, E11_3, E11_5, E11_6, E11_9, E11_12, E11_13, E11_14, E11_17, E11_18, E11_19, E11_22, E11_23, E11_26, E11_27, E11_28, E11_29, E11_32, E11_35, E11_36, hI, nI_leI, if_neg (show ¬ n ≤ i by omega), ite_not, nI_add]
    by_cases h1 : A 8 i = 0
    · rw [jq_cnt, if_pos h1] at ih
      rw [if_pos h1]
      exact ih
    · rw [jq_cnt, if_neg h1] at ih
      rw [if_neg h1]
      exact ih
theorem jx_notEnded {n : Nat} (hn : n ≤ 12) (hI : I 5 = nI n) : jv_run (d + 1) 11 [.ref m] (jm_H m I A L rest z) = some (some (.int (nI (jq_cnt (A 8) n))), jm_H m I A L rest z) := by
  rw [N11]
  simp (disch := first | omega | exact id rfl | exact jd_i | exact jd_r | exact jd_n | exact jd_f | decide) only [E11_0, E11_1, E11_2, E11_3]
  exact jx_notEnded_l hn hI n 0 (Nat.zero_add n)
def jq_act (A : Nat → Nat → Int32) (n j : Nat) : Bool := decide (A 8 j = 0) && decide (jq_cnt (A 8) j < (n - 1) / 2)
theorem jq_b_t : jq_b true = nI 1 := rfl
theorem jq_b_f : jq_b false = nI 0 := rfl
theorem jq_cnt_le (f : Nat → Int32) : ∀ n, jq_cnt f n ≤ n
  | 0 => Nat.le_refl 0
  | n + 1 => by have := jq_cnt_le f n; unfold jq_cnt; split <;> omega
theorem jx_isActive_l {j : Nat} {n : Nat} (hj : j < 12) (hn : 1 ≤ n ∧ n ≤ 17) (hI : I 0 = nI n) : ∀ (t i : Nat), i + t = j → jv_ev call 12 15 [some (.ref m), some (.int (nI j)), some (.int (nI (jq_cnt (A 8) i))), some (.int (nI i))] [] (jm_H m I A L rest z) = some (some (.int (jq_b (decide (jq_cnt (A 8) j < (n - 1) / 2)))), jm_H m I A L rest z)
  | 0, i, hi => by
    have e : i = j := by omega
    subst e
    have hc := jq_cnt_le (A 8) i
    rw [E12_15]
    have e2 : nI n - nI 1 = nI (n - 1) := pk_sub hn.1
    have e3 : nI (n - 1) / nI 2 = nI ((n - 1) / 2) := pk_div (by omega) (by decide) (by decide)
    simp (disch := first | omega | exact id rfl | exact jd_i | exact jd_r | exact jd_n | exact jd_f | decide) only [E12_0, E12_1, E12_4, E12_5, E12_6, E12_9, E12_10, E12_11, E12_12, E12_13, E12_14, E12_16, E12_17, E12_20, E12_21, E12_22, E12_25, E12_26, E12_27, E12_30, E12_31, E12_34, E12_35, E12_36, E12_37, E12_40, E12_43, E12_44, E12_45, E12_48, E12_49, E12_50, E12_51, E12_52, E12_55, E12_56, E12_59, E12_60, hI, nI_leI, if_pos (Nat.le_refl i), e2, e3]
    by_cases h1 : (n - 1) / 2 ≤ jq_cnt (A 8) i
    · rw [if_pos h1, decide_eq_false (by omega)]
      rfl
    · rw [if_neg h1, decide_eq_true (by omega)]
      rfl
  | t + 1, i, hi => by
    have ih := jx_isActive_l hj hn hI t (i + 1) (by omega)
    rw [E12_15]
    simp (disch := first | omega | exact id rfl | exact jd_i | exact jd_r | exact jd_n | exact jd_f | decide) only [E12_0, E12_1, E12_4, E12_5, E12_6, E12_9, E12_10, E12_11, E12_12, E12_13, E12_14, E12_16, E12_17, E12_20, E12_21, E12_22, E12_25, E12_26, E12_27, E12_30, E12_31, E12_34, E12_35, E12_36, E12_37, E12_40, E12_43, E12_44, E12_45, E12_48, E12_49, E12_50, E12_51, E12_52, E12_55, E12_56, E12_59, E12_60, nI_leI, if_neg (show ¬ j ≤ i by omega), ite_not, nI_add]
    by_cases h1 : A 8 i = 0
    · rw [jq_cnt, if_pos h1] at ih
      rw [if_pos h1]
      exact ih
    · rw [jq_cnt, if_neg h1] at ih
      rw [if_neg h1]
      exact ih
theorem jx_isActive {j : Nat} {n : Nat} (hj : j < 12) (hn : 1 ≤ n ∧ n ≤ 17) (hI : I 0 = nI n) : jv_run (d + 1) 12 [.ref m, .int (nI j)] (jm_H m I A L rest z) = some (some (.int (jq_b (jq_act A n j))), jm_H m I A L rest z) := by
  rw [N12]
  simp (disch := first | omega | exact id rfl | exact jd_i | exact jd_r | exact jd_n | exact jd_f | decide) only [E12_0, E12_1, E12_4, E12_5, E12_6, E12_9, E12_10, E12_11, E12_12, E12_13, E12_14]
  by_cases h1 : A 8 j = 0
  · rw [if_pos h1]
    have := jx_isActive_l (call := jv_run d) (m := m) (I := I) (A := A) (L := L) (rest := rest) (z := z) hj hn hI j 0 (Nat.zero_add j)
    simp only [jq_act, h1, decide_true, Bool.true_and]
    exact this
  · rw [if_neg h1]
    simp only [jq_act, h1, decide_false, Bool.false_and]
    rfl
theorem jx_isAddress {a : Int32} {h : jv_H} : jv_run (d + 1) 14 [.int a] h = some (some (.int (jq_b (decide (¬ a < 0 ∧ ¬ nI 1024 ≤ a)))), h) := by
  rw [N14]
  simp (disch := first | omega | exact id rfl | exact jd_i | exact jd_r | exact jd_n | exact jd_f | decide) only [E14_0, E14_1, E14_4, E14_5, E14_8, E14_11, E14_12, E14_15, E14_16]
  by_cases h1 : a < 0
  · simp only [h1, if_true, not_true, false_and, decide_false]
    rfl
  · by_cases h2 : nI 1024 ≤ a
    · simp only [h1, h2, if_true, if_false, not_true, and_false, decide_false]
      rfl
    · simp only [h1, h2, if_false, not_false_eq_true, and_self, decide_true]
      rfl
theorem jx_blockOf {j a : Int32} {h : jv_H} : jv_run (d + 1) 15 [.int j, .int a] h = some (some (.int (nI 64 * j + a / nI 16)), h) := by
  rw [N15]
  simp (disch := decide) only [E15_0, E15_2, E15_3, E15_4, E15_5, E15_7, E15_8, E15_9]
theorem jx_clock : jv_run (d + 1) 55 [.ref m] (jm_H m I A L rest z) = some (some (.int (I 36)), jm_H m I A L rest z) := by
  rw [N55]
  simp (disch := first | omega | exact id rfl | exact jd_i | exact jd_r | exact jd_n | exact jd_f | decide) only [E55_0, E55_1, E55_4]
def jq_isJob (n : Nat) (j : Int32) : Bool := decide (¬ j < 0 ∧ j < nI n)
theorem jx_isJob {j : Int32} {n : Nat} (hI : I 5 = nI n) : jv_run (d + 1) 48 [.ref m, .int j] (jm_H m I A L rest z) = some (some (.int (jq_b (jq_isJob n j))), jm_H m I A L rest z) := by
  rw [N48]
  simp (disch := first | omega | exact id rfl | exact jd_i | exact jd_r | exact jd_n | exact jd_f | decide) only [E48_0, E48_1, E48_4, E48_5, E48_6, E48_9, E48_12, E48_13, E48_16, E48_17, hI]
  by_cases h1 : j < 0
  · simp only [h1, if_true, not_true, false_and, decide_false, jq_isJob]
    rfl
  · by_cases h2 : j < nI n
    · have h3 : ¬ nI n ≤ j := Int32.not_le.mpr h2
      simp only [h1, h2, h3, if_false, not_false_eq_true, and_self, decide_true, jq_isJob]
      rfl
    · have h3 : nI n ≤ j := Int32.not_lt.mp h2
      simp only [h1, h2, h3, if_true, if_false, and_false, decide_false, jq_isJob]
      rfl
end JL
