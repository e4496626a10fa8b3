/-! the reference's small methods, as functions of its numbers and rows -/
section JL
variable {d m : Nat} {I : Nat → Int32} {A : Nat → Nat → Int32} {L : Nat → Nat → Int64} {rest : Nat → Option jv_C} {z : Nat × Nat} {call : jv_F}
def jq_w48 (v : Int64) : Int64 := (v <<< ((nI 16).toInt64 &&& 63)) >>> ((nI 16).toInt64 &&& 63)
def jq_w24 (v : Int64) : Int32 := (v.toInt32 <<< (nI 8 &&& 31)) >>> (nI 8 &&& 31)
theorem jx_word48 {v : Int64} {h : jv_H} : jv_run (d + 1) 1 [.long v] h = some (some (.long (jq_w48 v)), h) := by
  rw [N1]
  simp only [E1_0, E1_1, E1_3, E1_4, E1_6, E1_7, jq_w48]
theorem jx_word24 {v : Int64} {h : jv_H} : jv_run (d + 1) 2 [.long v] h = some (some (.int (jq_w24 v)), h) := by
  rw [N2]
  simp only [E2_0, E2_1, E2_2, E2_4, E2_5, E2_7, E2_8, jq_w24]
theorem jx_frames {f : Int32} : jv_run (d + 1) 3 [.ref m, .int f] (jm_H m I A L rest z) = if f < nI 3 ∨ nI 17 < f ∨ ¬ I 5 ≤ 0 then some (some (.int (-1)), jm_H m I A L rest z) else some (some (.int f), jm_H m (upd I 0 f) A L rest z) := by
  rw [N3]
  simp only [E3_0, E3_1, E3_2, E3_5, E3_6, E3_8, E3_11, E3_12, E3_15, E3_18, E3_19, E3_20, E3_21, E3_22, E3_25, E3_26]
  by_cases h1 : f < nI 3
  · simp only [h1, if_true, true_or]
  · by_cases h2 : nI 17 < f
    · simp only [h1, h2, if_true, if_false, true_or, false_or]
    · by_cases h3 : I 5 ≤ 0
      · simp only [h1, h2, h3, if_true, if_false, not_true, or_self]
      · simp only [h1, h2, h3, if_true, if_false, not_false_eq_true, or_true]
theorem jx_exist {k : Nat} (hk : k < 768) : jv_run (d + 1) 7 [.ref m, .int (nI k)] (jm_H m I A L rest z) = some (none, jm_H m (upd I 22 (I 22 + nI 1)) (va_up A 20 (upd (A 20) k (nI 1))) L rest z) := by
  rw [N7]
  simp (disch := first | omega | exact id rfl | exact jd_i | exact jd_r | exact jd_n | exact jd_f) only [E7_0, E7_1, E7_4, E7_5, E7_6, E7_7, E7_8, E7_9, E7_12, E7_13, E7_14, E7_17]
def jq_find (f : Nat → Int32) (k : Int32) : Nat → Nat → Int32
  | _, 0 => -1
  | i, t + 1 => if f i = k then nI i else jq_find f k (i + 1) t
theorem jx_frameOf_l {k : Int32} {n : Nat} (hn : n ≤ 17) (hI : I 0 = nI n) : ∀ (t i : Nat), i + t = n → jv_ev call 8 2 [some (.ref m), some (.int k), some (.int (nI i))] [] (jm_H m I A L rest z) = some (some (.int (jq_find (A 23) k i t)), jm_H m I A L rest z)
  | 0, i, hi => by
    rw [E8_2]
    simp (disch := first | omega | exact id rfl | exact jd_i | exact jd_r | exact jd_n | exact jd_f) only [E8_3, E8_4, E8_7, E8_28, E8_29, hI, nI_leI, if_pos (show n ≤ i by omega), jq_find]
  | t + 1, i, hi => by
    rw [E8_2]
    simp (disch := first | omega | exact id rfl | exact jd_i | exact jd_r | exact jd_n | exact jd_f) only [E8_3, E8_4, E8_7, E8_10, E8_11, E8_14, E8_15, E8_16, E8_17, E8_20, E8_21, E8_22, E8_25, hI, nI_leI, if_neg (show ¬ n ≤ i by omega), jq_find, nI_add, jx_frameOf_l hn hI t (i + 1) (by omega), ite_not]
    by_cases h1 : A 23 i = k <;> simp only [h1, if_true, if_false]
theorem jx_frameOf {k : Int32} {n : Nat} (hn : n ≤ 17) (hI : I 0 = nI n) : jv_run (d + 1) 8 [.ref m, .int k] (jm_H m I A L rest z) = some (some (.int (jq_find (A 23) k 0 n)), jm_H m I A L rest z) := by
  rw [N8]
  simp (disch := first | omega | exact id rfl | exact jd_i | exact jd_r | exact jd_n | exact jd_f) only [E8_0, E8_1, jx_frameOf_l hn hI n 0 (Nat.zero_add n)]
theorem jx_sectorOf_l {k : Int32} : ∀ (t i : Nat), i + t = 64 → jv_ev call 9 2 [some (.ref m), some (.int k), some (.int (nI i))] [] (jm_H m I A L rest z) = some (some (.int (jq_find (A 28) k i t)), jm_H m I A L rest z)
  | 0, i, hi => by
    rw [E9_2]
    simp (disch := first | omega | exact id rfl | exact jd_i | exact jd_r | exact jd_n | exact jd_f) only [E9_3, E9_5, E9_26, E9_27, nI_leI, if_pos (show 64 ≤ i by omega), jq_find]
  | t + 1, i, hi => by
    rw [E9_2]
    simp (disch := first | omega | exact id rfl | exact jd_i | exact jd_r | exact jd_n | exact jd_f) only [E9_3, E9_5, E9_8, E9_9, E9_12, E9_13, E9_14, E9_15, E9_18, E9_19, E9_20, E9_23, nI_leI, if_neg (show ¬ 64 ≤ i by omega), jq_find, nI_add, jx_sectorOf_l t (i + 1) (by omega), ite_not]
    by_cases h1 : A 28 i = k <;> simp only [h1, if_true, if_false]
theorem jx_sectorOf {k : Int32} : jv_run (d + 1) 9 [.ref m, .int k] (jm_H m I A L rest z) = some (some (.int (jq_find (A 28) k 0 64)), jm_H m I A L rest z) := by
  rw [N9]
  simp (disch := first | omega | exact id rfl | exact jd_i | exact jd_r | exact jd_n | exact jd_f) only [E9_0, E9_1, jx_sectorOf_l 64 0 rfl]
theorem jx_freeFrame {n : Nat} (hn : n ≤ 17) (hI : I 0 = nI n) : jv_run (d + 2) 10 [.ref m] (jm_H m I A L rest z) = some (some (.int (jq_find (A 23) (-1) 0 n)), jm_H m I A L rest z) := by
  rw [N10]
  simp (disch := first | omega | exact id rfl | simp only [jx_frameOf hn hI, Option.isSome_some]) only [E10_0, E10_1, E10_2, E10_5, jx_frameOf hn hI, Option.getD_some, Option.toList_some, Option.toList_none, List.cons_append, List.nil_append]
def jq_cnt (f : Nat → Int32) : Nat → Nat
  | 0 => 0
  | n + 1 => jq_cnt f n + if f n = 0 then 1 else 0
end JL
