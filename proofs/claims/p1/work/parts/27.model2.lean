/-! frame, bytes and digest of new objects -/
section JR2
variable {x d m : Nat} {rest : Nat → Option jv_C} {z : Nat × Nat} {f : Nat → Option jv_C} {I : Nat → Int32} {A : Nat → Nat → Int32} {L : Nat → Nat → Int64} {wc bc : Int32} {W : Nat → Int64} {B : Nat → Int32}
theorem jr_frame {g w : Int32} : jv_run (d + 1) 57 [.ref m, .int g, .int w] (jr_H m rest z) = some (some (.int (jc_fr g w)), jr_H m rest z) := by
  rw [N57]
  by_cases h1 : g < 0
  · simp (disch := first | omega | exact id rfl | exact jd_i | exact jd_r | exact jd_n | exact jd_f | decide) only [E57_0, E57_1, E57_12, E57_13, h1, if_true]
    unfold jc_fr
    rw [if_pos (Or.inl h1)]
  · by_cases h2 : nI 7 ≤ g
    · have h3 : ¬ g < jm_I0 0 := Int32.not_lt.mpr h2
      simp (disch := first | omega | exact id rfl | exact jd_i | exact jd_r | exact jd_n | exact jd_f | decide) only [E57_0, E57_1, E57_4, E57_5, E57_6, E57_9, E57_12, E57_13, h1, h3, if_false]
      unfold jc_fr
      rw [if_pos (Or.inr (Or.inl h2))]
    · have h3 : g < jm_I0 0 := Int32.not_le.mp h2
      obtain ⟨q, hq, rfl⟩ := nI_of h1
      have hq2 : q < 7 := by
        rcases Nat.lt_or_ge q 7 with h | h
        · exact h
        · exact absurd (nI_le h hq) h2
      simp (disch := first | omega | exact id rfl | exact jd_i | exact jd_r | exact jd_n | exact jd_f | decide) only [E57_0, E57_1, E57_4, E57_5, E57_6, E57_9, E57_14, E57_15, E57_18, E57_19, E57_20, E57_27, E57_28, E57_29, E57_30, h1, h3, if_false, if_true, jr_23 (show q < 17 by omega), if_pos (show (-1 : Int32) < 0 by decide)]
      by_cases w0 : w = nI 0
      · subst w0
        rw [if_pos rfl]
        simp (disch := first | omega | exact id rfl | exact jd_i | exact jd_r | exact jd_n | exact jd_f | decide) only [E57_64, E57_65, E57_80, E57_81, if_pos (show nI 0 = 0 from rfl)]
        unfold jc_fr
        simp only [h1, h2, false_or]
        rfl
      · rw [if_neg w0]
        by_cases w1 : w = nI 1
        · subst w1
          rw [if_pos rfl]
          simp (disch := first | omega | exact id rfl | exact jd_i | exact jd_r | exact jd_n | exact jd_f | decide) only [E57_82, E57_83, E57_98, E57_99, if_pos (show nI 0 = 0 from rfl)]
          unfold jc_fr
          simp only [h1, h2, false_or]
          rfl
        · rw [if_neg w1]
          by_cases w2 : w = nI 2
          · subst w2
            rw [if_pos rfl]
            simp (disch := first | omega | exact id rfl | exact jd_i | exact jd_r | exact jd_n | exact jd_f | decide) only [E57_100, E57_101, E57_104, E57_105, E57_106, E57_113, E57_114, jr_26, if_true]
            unfold jc_fr
            simp only [h1, h2, false_or]
            rfl
          · rw [if_neg w2]
            by_cases w3 : w = nI 3
            · subst w3
              rw [if_pos rfl]
              simp (disch := first | omega | exact id rfl | exact jd_i | exact jd_r | exact jd_n | exact jd_f | decide) only [E57_115, E57_116, E57_137, E57_138, if_pos (show nI 0 = 0 from rfl)]
              unfold jc_fr
              simp only [h1, h2, false_or]
              rfl
            · rw [if_neg w3]
              by_cases w4 : w = nI 4
              · subst w4
                rw [if_pos rfl]
                simp (disch := first | omega | exact id rfl | exact jd_i | exact jd_r | exact jd_n | exact jd_f | decide) only [E57_139, E57_140, E57_161, E57_162, if_pos (show nI 0 = 0 from rfl)]
                unfold jc_fr
                simp only [h1, h2, false_or]
                rfl
              · rw [if_neg w4]
                simp (disch := first | omega | exact id rfl | exact jd_i | exact jd_r | exact jd_n | exact jd_f | decide) only [E57_163, E57_164]
                unfold jc_fr
                rw [if_pos]
                by_cases w5 : w < 0
                · exact Or.inr (Or.inr (Or.inl w5))
                · by_cases w6 : w ≤ nI 4
                  · exfalso
                    obtain ⟨k, hk, rfl⟩ := nI_of w5
                    have hk2 : k ≤ 4 := (nI_leI hk (by decide)).mp w6
                    rcases (show k = 0 ∨ k = 1 ∨ k = 2 ∨ k = 3 ∨ k = 4 by omega) with rfl | rfl | rfl | rfl | rfl
                    · exact w0 rfl
                    · exact w1 rfl
                    · exact w2 rfl
                    · exact w3 rfl
                    · exact w4 rfl
                  · exact Or.inr (Or.inr (Or.inr w6))
theorem jr_bytes_l {a0 a1 a2 a3 : Int64} {n : Nat} (hn : n ≤ 32) {l11 l12 : Option Value} : ∀ (t i : Nat) (l11 l12 : Option Value) (I : Nat → Int32) (A : Nat → Nat → Int32), i + t = n → I 4 = nI i → ∃ I' A', jv_ev (jv_run (d + 1)) 5 30 [some (.ref m), some (.long a0), none, some (.long a1), none, some (.long a2), none, some (.long a3), none, some (.int (nI n)), some (.int (nI i)), l11, l12] [] (jm_H m I A L rest z) = some (some (.int (nI n)), jm_H m I' A' L rest z)
  | 0, i, l11, l12, I, A, hi, h4 => by
    have e : i = n := by omega
    subst e
    refine ⟨I, A, ?_⟩
    rw [E5_30]
    simp (disch := first | omega | exact id rfl | exact jd_i | exact jd_r | exact jd_n | exact jd_f | decide) only [E5_32, E5_34, nI_leI, if_pos (Nat.le_refl i), E5_119, E5_120, E5_123, h4]
  | t + 1, i, l11, l12, I, A, hi, h4 => by
    have e1 : nI i - nI i / nI 8 * nI 8 = nI (i % 8) := pk_rem (by omega) (by decide) (by decide)
    have key : ∀ v : Int64, ∃ I' A', jv_ev (jv_run (d + 1)) 5 73 [some (.ref m), some (.long a0), none, some (.long a1), none, some (.long a2), none, some (.long a3), none, some (.int (nI n)), some (.int (nI i)), l11, l12] [.long v] (jm_H m I A L rest z) = some (some (.int (nI n)), jm_H m I' A' L rest z) := by
      intro v
      obtain ⟨I', A', ih⟩ := jr_bytes_l (a0 := a0) (a1 := a1) (a2 := a2) (a3 := a3) hn (l11 := l11) (l12 := l12) t (i + 1) (some (.long v)) none (upd I 4 (nI (i + 1))) (va_up A 3 (upd (A 3) i ((v >>> ((nI 56 - nI 8 * nI (i % 8)).toInt64 &&& 63)).toInt32 &&& nI 255))) (by omega) pk_us
      refine ⟨I', A', ?_⟩
      rw [← ih]
      simp (disch := first | omega | exact id rfl | exact jd_i | exact jd_r | exact jd_n | exact jd_f | decide) only [E5_73, E5_75, E5_76, E5_79, E5_80, E5_83, E5_85, E5_87, E5_89, E5_91, E5_93, E5_94, E5_95, E5_96, E5_97, E5_98, E5_101, E5_102, E5_103, E5_104, E5_105, E5_108, E5_109, E5_110, E5_113, E5_116, h4, e1, nI_add]
    rw [E5_30]
    simp (disch := first | omega | exact id rfl | exact jd_i | exact jd_r | exact jd_n | exact jd_f | decide) only [E5_32, E5_34, E5_37, E5_39, E5_41, E5_44, E5_45, E5_48, E5_50, E5_52, E5_55, E5_56, E5_59, E5_61, E5_63, E5_66, E5_68, E5_71, nI_leI, if_neg (show ¬ n ≤ i by omega)]
    (repeat' split) <;> exact key _
theorem jr_bytes {a0 a1 a2 a3 : Int64} {k : Int32} : ∃ I' A', jv_run (d + 2) 5 [.ref m, .long a0, .long a1, .long a2, .long a3, .int k] (jr_H m rest z) = some (some (.int (if k < 0 ∨ nI 32 < k then -1 else k)), jm_H m I' A' jm_L0 rest z) := by
  by_cases h1 : k < 0
  · refine ⟨jm_I0, jm_A2 64, ?_⟩
    rw [N5]
    simp (disch := first | omega | exact id rfl | exact jd_i | exact jd_r | exact jd_n | exact jd_f | decide) only [E5_0, E5_2, E5_25, E5_26, h1, if_true, true_or]
  · by_cases h2 : nI 32 < k
    · refine ⟨jm_I0, jm_A2 64, ?_⟩
      rw [N5]
      simp (disch := first | omega | exact id rfl | exact jd_i | exact jd_r | exact jd_n | exact jd_f | decide) only [E5_0, E5_2, E5_5, E5_7, E5_9, E5_25, E5_26, h1, h2, if_true, if_false, or_true]
    · obtain ⟨n, hn, rfl⟩ := nI_of h1
      have hn2 : n ≤ 32 := by
        rcases Nat.lt_or_ge 32 n with h | h
        · exact absurd (nI_lt h hn) h2
        · exact h
      have e4 : jm_I0 4 = nI 0 := rfl
      obtain ⟨I', A', e⟩ := jr_bytes_l (d := d) (m := m) (rest := rest) (z := z) (L := jm_L0) (a0 := a0) (a1 := a1) (a2 := a2) (a3 := a3) hn2 (l11 := none) (l12 := none) n 0 none none jm_I0 (jm_A2 64) (Nat.zero_add n) e4
      refine ⟨I', A', ?_⟩
      rw [N5]
      simp (disch := first | omega | exact id rfl | exact jd_i | exact jd_r | exact jd_n | exact jd_f | decide) only [E5_0, E5_2, E5_5, E5_7, E5_9, E5_12, E5_13, E5_16, E5_18, E5_19, E5_22, E5_27, E5_28, h1, h2, if_false, or_self, e4, nI_add, nI_leI, if_pos (show 0 + n ≤ 2000 by omega)]
      exact e
def jg_t : Nat → Nat → Int64 → Int64
  | _, 0, v => v
  | i, t + 1, v => jg_t (i + 1) t (v * 31 + (if nI i = nI 7 then (-1 : Int32) else 0).toInt64)
def jg_w (g : Nat) : Nat → Nat → Int64 → Int64
  | _, 0, v => v
  | w, t + 1, v => jg_w g (w + 1) t (v * 31 + (jc_fr (nI g) (nI w)).toInt64)
def jg_g : Nat → Nat → Int64 → Int64
  | _, 0, v => v
  | g, t + 1, v => jg_g (g + 1) t (jg_w g 0 5 v)
def jg_all : Int64 := jg_g 0 7 (jg_t 0 8 (7 * 31 + (nI 0).toInt64))
theorem jc_dt : ∀ (t i : Nat) (v : Int64) (l4 : Option Value), i + t = 8 → jv_ev (jv_run (d + 2)) 138 57 [some (.ref x), some (.long v), none, some (.int (nI i)), l4] [] (jp_H x f (jp_M x wc bc W B) I A L z) = jv_ev (jv_run (d + 2)) 138 82 [some (.ref x), some (.long (jg_t i t v)), none, some (.int (nI 8)), l4] [] (jp_H x f (jp_M x wc bc W B) I A L z)
  | 0, i, v, l4, hi => by
    have e : i = 8 := by omega
    subst e
    rw [E138_57]
    simp (disch := first | omega | exact id rfl | exact jd_i | exact jd_r | exact jd_n | exact jd_f | exact jp_cX | exact jp_cT | exact jp_cC | exact jp_cD | decide | exact id (Nat.le_of_ble_eq_true rfl) | (simp (disch := first | omega | exact id rfl | exact id (Nat.le_of_ble_eq_true rfl)) only [jp_g0_0, jp_g0_1, jp_g0_2, jp_g0_3, jp_g0_4, jp_g0_5, jp_g0_6, jp_g0_7, jp_g0_8, jp_g0_9, jp_g0_10, jp_g0_11, jp_g1_0, jp_g1_1, jp_g1_2, jp_g1_3, jp_g4_0, jp_g4_1, jp_g4_2, jp_g4_3, jp_g6_0, jp_g6_1, jp_g6_2, jp_g6_3, jp_g6_4, jp_g6_5, jp_g6_6, jp_g6_7, jp_sW, jp_sB, Option.isSome_some])) only [jp_g0_0, jp_g0_1, jp_g0_2, jp_g0_3, jp_g0_4, jp_g0_5, jp_g0_6, jp_g0_7, jp_g0_8, jp_g0_9, jp_g0_10, jp_g0_11, jp_g1_0, jp_g1_1, jp_g1_2, jp_g1_3, jp_g4_0, jp_g4_1, jp_g4_2, jp_g4_3, jp_g6_0, jp_g6_1, jp_g6_2, jp_g6_3, jp_g6_4, jp_g6_5, jp_g6_6, jp_g6_7, jp_sW, jp_sB, Option.isSome_some, Option.getD_some, Option.toList_some, Option.toList_none, List.cons_append, List.nil_append, E138_58, E138_60, if_pos (show nI 7 < nI 8 by decide)]
    rfl
  | t + 1, i, v, l4, hi => by
    have ih := jc_dt t (i + 1) (v * 31 + (if nI i = nI 7 then (-1 : Int32) else 0).toInt64) l4 (by omega)
    rw [E138_57]
    simp (disch := first | omega | exact id rfl | exact jd_i | exact jd_r | exact jd_n | exact jd_f | exact jp_cX | exact jp_cT | exact jp_cC | exact jp_cD | decide | exact id (Nat.le_of_ble_eq_true rfl) | (simp (disch := first | omega | exact id rfl | exact id (Nat.le_of_ble_eq_true rfl)) only [jp_g0_0, jp_g0_1, jp_g0_2, jp_g0_3, jp_g0_4, jp_g0_5, jp_g0_6, jp_g0_7, jp_g0_8, jp_g0_9, jp_g0_10, jp_g0_11, jp_g1_0, jp_g1_1, jp_g1_2, jp_g1_3, jp_g4_0, jp_g4_1, jp_g4_2, jp_g4_3, jp_g6_0, jp_g6_1, jp_g6_2, jp_g6_3, jp_g6_4, jp_g6_5, jp_g6_6, jp_g6_7, jp_sW, jp_sB, jc_told, Option.isSome_some])) only [jp_g0_0, jp_g0_1, jp_g0_2, jp_g0_3, jp_g0_4, jp_g0_5, jp_g0_6, jp_g0_7, jp_g0_8, jp_g0_9, jp_g0_10, jp_g0_11, jp_g1_0, jp_g1_1, jp_g1_2, jp_g1_3, jp_g4_0, jp_g4_1, jp_g4_2, jp_g4_3, jp_g6_0, jp_g6_1, jp_g6_2, jp_g6_3, jp_g6_4, jp_g6_5, jp_g6_6, jp_g6_7, jp_sW, jp_sB, jc_told, Option.isSome_some, Option.getD_some, Option.toList_some, Option.toList_none, List.cons_append, List.nil_append, E138_58, E138_60, E138_63, E138_64, E138_67, E138_68, E138_69, E138_70, E138_73, E138_74, E138_75, E138_76, E138_79, nI_ltI, nI_add, if_neg (show ¬ 7 < i by omega)]
    exact ih
theorem jc_dw {g : Nat} : ∀ (t w : Nat) (v : Int64), w + t = 5 → jv_ev (jv_run (d + 2)) 138 98 [some (.ref x), some (.long v), none, some (.int (nI g)), some (.int (nI w))] [] (jp_H x f (jp_M x wc bc W B) I A L z) = jv_ev (jv_run (d + 2)) 138 125 [some (.ref x), some (.long (jg_w g w t v)), none, some (.int (nI g)), some (.int (nI 5))] [] (jp_H x f (jp_M x wc bc W B) I A L z)
  | 0, w, v, hi => by
    have e : w = 5 := by omega
    subst e
    rw [E138_98]
    simp (disch := first | omega | exact id rfl | exact jd_i | exact jd_r | exact jd_n | exact jd_f | exact jp_cX | exact jp_cT | exact jp_cC | exact jp_cD | decide | exact id (Nat.le_of_ble_eq_true rfl) | (simp (disch := first | omega | exact id rfl | exact id (Nat.le_of_ble_eq_true rfl)) only [jp_g0_0, jp_g0_1, jp_g0_2, jp_g0_3, jp_g0_4, jp_g0_5, jp_g0_6, jp_g0_7, jp_g0_8, jp_g0_9, jp_g0_10, jp_g0_11, jp_g1_0, jp_g1_1, jp_g1_2, jp_g1_3, jp_g4_0, jp_g4_1, jp_g4_2, jp_g4_3, jp_g6_0, jp_g6_1, jp_g6_2, jp_g6_3, jp_g6_4, jp_g6_5, jp_g6_6, jp_g6_7, jp_sW, jp_sB, Option.isSome_some])) only [jp_g0_0, jp_g0_1, jp_g0_2, jp_g0_3, jp_g0_4, jp_g0_5, jp_g0_6, jp_g0_7, jp_g0_8, jp_g0_9, jp_g0_10, jp_g0_11, jp_g1_0, jp_g1_1, jp_g1_2, jp_g1_3, jp_g4_0, jp_g4_1, jp_g4_2, jp_g4_3, jp_g6_0, jp_g6_1, jp_g6_2, jp_g6_3, jp_g6_4, jp_g6_5, jp_g6_6, jp_g6_7, jp_sW, jp_sB, Option.isSome_some, Option.getD_some, Option.toList_some, Option.toList_none, List.cons_append, List.nil_append, E138_100, E138_101, if_pos (show nI 4 < nI 5 by decide)]
    rfl
  | t + 1, w, v, hi => by
    have ih := jc_dw (g := g) t (w + 1) (v * 31 + (jc_fr (nI g) (nI w)).toInt64) (by omega)
    rw [E138_98]
    simp (disch := first | omega | exact id rfl | exact jd_i | exact jd_r | exact jd_n | exact jd_f | exact jp_cX | exact jp_cT | exact jp_cC | exact jp_cD | decide | exact id (Nat.le_of_ble_eq_true rfl) | (simp (disch := first | omega | exact id rfl | exact id (Nat.le_of_ble_eq_true rfl)) only [jp_g0_0, jp_g0_1, jp_g0_2, jp_g0_3, jp_g0_4, jp_g0_5, jp_g0_6, jp_g0_7, jp_g0_8, jp_g0_9, jp_g0_10, jp_g0_11, jp_g1_0, jp_g1_1, jp_g1_2, jp_g1_3, jp_g4_0, jp_g4_1, jp_g4_2, jp_g4_3, jp_g6_0, jp_g6_1, jp_g6_2, jp_g6_3, jp_g6_4, jp_g6_5, jp_g6_6, jp_g6_7, jp_sW, jp_sB, jc_frame, Option.isSome_some])) only [jp_g0_0, jp_g0_1, jp_g0_2, jp_g0_3, jp_g0_4, jp_g0_5, jp_g0_6, jp_g0_7, jp_g0_8, jp_g0_9, jp_g0_10, jp_g0_11, jp_g1_0, jp_g1_1, jp_g1_2, jp_g1_3, jp_g4_0, jp_g4_1, jp_g4_2, jp_g4_3, jp_g6_0, jp_g6_1, jp_g6_2, jp_g6_3, jp_g6_4, jp_g6_5, jp_g6_6, jp_g6_7, jp_sW, jp_sB, jc_frame, Option.isSome_some, Option.getD_some, Option.toList_some, Option.toList_none, List.cons_append, List.nil_append, E138_100, E138_101, E138_104, E138_105, E138_108, E138_109, E138_110, E138_111, E138_113, E138_116, E138_117, E138_118, E138_119, E138_122, nI_ltI, nI_add, if_neg (show ¬ 4 < w by omega)]
    exact ih
theorem jc_dg : ∀ (t g : Nat) (v : Int64) (l4 : Option Value), g + t = 7 → jv_ev (jv_run (d + 2)) 138 84 [some (.ref x), some (.long v), none, some (.int (nI g)), l4] [] (jp_H x f (jp_M x wc bc W B) I A L z) = some (some (.long (jg_g g t v)), jp_H x f (jp_M x wc bc W B) I A L z)
  | 0, g, v, l4, hi => by
    have e : g = 7 := by omega
    subst e
    rw [E138_84]
    simp (disch := first | omega | exact id rfl | exact jd_i | exact jd_r | exact jd_n | exact jd_f | exact jp_cX | exact jp_cT | exact jp_cC | exact jp_cD | decide | exact id (Nat.le_of_ble_eq_true rfl) | (simp (disch := first | omega | exact id rfl | exact id (Nat.le_of_ble_eq_true rfl)) only [jp_g0_0, jp_g0_1, jp_g0_2, jp_g0_3, jp_g0_4, jp_g0_5, jp_g0_6, jp_g0_7, jp_g0_8, jp_g0_9, jp_g0_10, jp_g0_11, jp_g1_0, jp_g1_1, jp_g1_2, jp_g1_3, jp_g4_0, jp_g4_1, jp_g4_2, jp_g4_3, jp_g6_0, jp_g6_1, jp_g6_2, jp_g6_3, jp_g6_4, jp_g6_5, jp_g6_6, jp_g6_7, jp_sW, jp_sB, Option.isSome_some])) only [jp_g0_0, jp_g0_1, jp_g0_2, jp_g0_3, jp_g0_4, jp_g0_5, jp_g0_6, jp_g0_7, jp_g0_8, jp_g0_9, jp_g0_10, jp_g0_11, jp_g1_0, jp_g1_1, jp_g1_2, jp_g1_3, jp_g4_0, jp_g4_1, jp_g4_2, jp_g4_3, jp_g6_0, jp_g6_1, jp_g6_2, jp_g6_3, jp_g6_4, jp_g6_5, jp_g6_6, jp_g6_7, jp_sW, jp_sB, Option.isSome_some, Option.getD_some, Option.toList_some, Option.toList_none, List.cons_append, List.nil_append, E138_85, E138_86, E138_89, E138_92, if_pos (show nI 7 ≤ nI 7 by decide), E138_131, E138_132]
    rfl
  | t + 1, g, v, l4, hi => by
    have ih := jc_dg t (g + 1) (jg_w g 0 5 v) (some (.int (nI 5))) (by omega)
    rw [E138_84]
    simp (disch := first | omega | exact id rfl | exact jd_i | exact jd_r | exact jd_n | exact jd_f | exact jp_cX | exact jp_cT | exact jp_cC | exact jp_cD | decide | exact id (Nat.le_of_ble_eq_true rfl) | (simp (disch := first | omega | exact id rfl | exact id (Nat.le_of_ble_eq_true rfl)) only [jp_g0_0, jp_g0_1, jp_g0_2, jp_g0_3, jp_g0_4, jp_g0_5, jp_g0_6, jp_g0_7, jp_g0_8, jp_g0_9, jp_g0_10, jp_g0_11, jp_g1_0, jp_g1_1, jp_g1_2, jp_g1_3, jp_g4_0, jp_g4_1, jp_g4_2, jp_g4_3, jp_g6_0, jp_g6_1, jp_g6_2, jp_g6_3, jp_g6_4, jp_g6_5, jp_g6_6, jp_g6_7, jp_sW, jp_sB, Option.isSome_some])) only [jp_g0_0, jp_g0_1, jp_g0_2, jp_g0_3, jp_g0_4, jp_g0_5, jp_g0_6, jp_g0_7, jp_g0_8, jp_g0_9, jp_g0_10, jp_g0_11, jp_g1_0, jp_g1_1, jp_g1_2, jp_g1_3, jp_g4_0, jp_g4_1, jp_g4_2, jp_g4_3, jp_g6_0, jp_g6_1, jp_g6_2, jp_g6_3, jp_g6_4, jp_g6_5, jp_g6_6, jp_g6_7, jp_sW, jp_sB, Option.isSome_some, Option.getD_some, Option.toList_some, Option.toList_none, List.cons_append, List.nil_append, E138_85, E138_86, E138_89, E138_92, E138_95, E138_96, nI_leI, if_neg (show ¬ 7 ≤ g by omega)]
    rw [jc_dw 5 0 v rfl]
    simp (disch := first | omega | exact id rfl | exact jd_i | exact jd_r | exact jd_n | exact jd_f | exact jp_cX | exact jp_cT | exact jp_cC | exact jp_cD | decide | exact id (Nat.le_of_ble_eq_true rfl) | (simp (disch := first | omega | exact id rfl | exact id (Nat.le_of_ble_eq_true rfl)) only [jp_g0_0, jp_g0_1, jp_g0_2, jp_g0_3, jp_g0_4, jp_g0_5, jp_g0_6, jp_g0_7, jp_g0_8, jp_g0_9, jp_g0_10, jp_g0_11, jp_g1_0, jp_g1_1, jp_g1_2, jp_g1_3, jp_g4_0, jp_g4_1, jp_g4_2, jp_g4_3, jp_g6_0, jp_g6_1, jp_g6_2, jp_g6_3, jp_g6_4, jp_g6_5, jp_g6_6, jp_g6_7, jp_sW, jp_sB, Option.isSome_some])) only [jp_g0_0, jp_g0_1, jp_g0_2, jp_g0_3, jp_g0_4, jp_g0_5, jp_g0_6, jp_g0_7, jp_g0_8, jp_g0_9, jp_g0_10, jp_g0_11, jp_g1_0, jp_g1_1, jp_g1_2, jp_g1_3, jp_g4_0, jp_g4_1, jp_g4_2, jp_g4_3, jp_g6_0, jp_g6_1, jp_g6_2, jp_g6_3, jp_g6_4, jp_g6_5, jp_g6_6, jp_g6_7, jp_sW, jp_sB, Option.isSome_some, Option.getD_some, Option.toList_some, Option.toList_none, List.cons_append, List.nil_append, E138_125, E138_128, nI_add]
    exact ih
theorem jc_digest : jv_run (d + 3) 138 [.ref x] (jp_H x f (jp_M x wc bc W B) I A L z) = some (some (.long jg_all), jp_H x f (jp_M x wc bc W B) I A L z) := by
  rw [N138]
  simp (disch := first | omega | exact id rfl | exact jd_i | exact jd_r | exact jd_n | exact jd_f | exact jp_cX | exact jp_cT | exact jp_cC | exact jp_cD | decide | exact id (Nat.le_of_ble_eq_true rfl) | (simp (disch := first | omega | exact id rfl | exact id (Nat.le_of_ble_eq_true rfl)) only [jp_g0_0, jp_g0_1, jp_g0_2, jp_g0_3, jp_g0_4, jp_g0_5, jp_g0_6, jp_g0_7, jp_g0_8, jp_g0_9, jp_g0_10, jp_g0_11, jp_g1_0, jp_g1_1, jp_g1_2, jp_g1_3, jp_g4_0, jp_g4_1, jp_g4_2, jp_g4_3, jp_g6_0, jp_g6_1, jp_g6_2, jp_g6_3, jp_g6_4, jp_g6_5, jp_g6_6, jp_g6_7, jp_sW, jp_sB, Option.isSome_some])) only [jp_g0_0, jp_g0_1, jp_g0_2, jp_g0_3, jp_g0_4, jp_g0_5, jp_g0_6, jp_g0_7, jp_g0_8, jp_g0_9, jp_g0_10, jp_g0_11, jp_g1_0, jp_g1_1, jp_g1_2, jp_g1_3, jp_g4_0, jp_g4_1, jp_g4_2, jp_g4_3, jp_g6_0, jp_g6_1, jp_g6_2, jp_g6_3, jp_g6_4, jp_g6_5, jp_g6_6, jp_g6_7, jp_sW, jp_sB, Option.isSome_some, Option.getD_some, Option.toList_some, Option.toList_none, List.cons_append, List.nil_append, E138_0, E138_3, E138_4, E138_5]
  rw [E138_6]
  simp (disch := first | omega | exact id rfl | exact jd_i | exact jd_r | exact jd_n | exact jd_f | exact jp_cX | exact jp_cT | exact jp_cC | exact jp_cD | decide | exact id (Nat.le_of_ble_eq_true rfl) | (simp (disch := first | omega | exact id rfl | exact id (Nat.le_of_ble_eq_true rfl)) only [jp_g0_0, jp_g0_1, jp_g0_2, jp_g0_3, jp_g0_4, jp_g0_5, jp_g0_6, jp_g0_7, jp_g0_8, jp_g0_9, jp_g0_10, jp_g0_11, jp_g1_0, jp_g1_1, jp_g1_2, jp_g1_3, jp_g4_0, jp_g4_1, jp_g4_2, jp_g4_3, jp_g6_0, jp_g6_1, jp_g6_2, jp_g6_3, jp_g6_4, jp_g6_5, jp_g6_6, jp_g6_7, jp_sW, jp_sB, Option.isSome_some])) only [jp_g0_0, jp_g0_1, jp_g0_2, jp_g0_3, jp_g0_4, jp_g0_5, jp_g0_6, jp_g0_7, jp_g0_8, jp_g0_9, jp_g0_10, jp_g0_11, jp_g1_0, jp_g1_1, jp_g1_2, jp_g1_3, jp_g4_0, jp_g4_1, jp_g4_2, jp_g4_3, jp_g6_0, jp_g6_1, jp_g6_2, jp_g6_3, jp_g6_4, jp_g6_5, jp_g6_6, jp_g6_7, jp_sW, jp_sB, Option.isSome_some, Option.getD_some, Option.toList_some, Option.toList_none, List.cons_append, List.nil_append, E138_7, E138_8, E138_11, if_pos (show nI 0 ≤ nI 0 by decide), E138_43, E138_44, E138_47, E138_48, E138_49, E138_52, E138_53, E138_54, E138_55, E138_56]
  rw [jc_dt 8 0 _ none rfl]
  simp (disch := first | omega | exact id rfl | exact jd_i | exact jd_r | exact jd_n | exact jd_f | exact jp_cX | exact jp_cT | exact jp_cC | exact jp_cD | decide | exact id (Nat.le_of_ble_eq_true rfl) | (simp (disch := first | omega | exact id rfl | exact id (Nat.le_of_ble_eq_true rfl)) only [jp_g0_0, jp_g0_1, jp_g0_2, jp_g0_3, jp_g0_4, jp_g0_5, jp_g0_6, jp_g0_7, jp_g0_8, jp_g0_9, jp_g0_10, jp_g0_11, jp_g1_0, jp_g1_1, jp_g1_2, jp_g1_3, jp_g4_0, jp_g4_1, jp_g4_2, jp_g4_3, jp_g6_0, jp_g6_1, jp_g6_2, jp_g6_3, jp_g6_4, jp_g6_5, jp_g6_6, jp_g6_7, jp_sW, jp_sB, Option.isSome_some])) only [jp_g0_0, jp_g0_1, jp_g0_2, jp_g0_3, jp_g0_4, jp_g0_5, jp_g0_6, jp_g0_7, jp_g0_8, jp_g0_9, jp_g0_10, jp_g0_11, jp_g1_0, jp_g1_1, jp_g1_2, jp_g1_3, jp_g4_0, jp_g4_1, jp_g4_2, jp_g4_3, jp_g6_0, jp_g6_1, jp_g6_2, jp_g6_3, jp_g6_4, jp_g6_5, jp_g6_6, jp_g6_7, jp_sW, jp_sB, Option.isSome_some, Option.getD_some, Option.toList_some, Option.toList_none, List.cons_append, List.nil_append, E138_82, E138_83]
  rw [jc_dg 7 0 _ none rfl]
  rfl
theorem jr_dt : ∀ (t i : Nat) (v : Int64) (l4 : Option Value), i + t = 8 → jv_ev (jv_run (d + 1)) 59 172 [some (.ref m), some (.long v), none, some (.int (nI i)), l4] [] (jr_H m rest z) = jv_ev (jv_run (d + 1)) 59 197 [some (.ref m), some (.long (jg_t i t v)), none, some (.int (nI 8)), l4] [] (jr_H m rest z)
  | 0, i, v, l4, hi => by
    have e : i = 8 := by omega
    subst e
    rw [E59_172]
    simp (disch := first | omega | exact id rfl | exact jd_i | exact jd_r | exact jd_n | exact jd_f | decide) only [E59_173, E59_175, if_pos (show nI 8 ≤ nI 8 by decide)]
    rfl
  | t + 1, i, v, l4, hi => by
    have ih := jr_dt t (i + 1) (v * 31 + (if nI i = nI 7 then (-1 : Int32) else 0).toInt64) l4 (by omega)
    rw [E59_172]
    simp (disch := first | omega | exact id rfl | exact jd_i | exact jd_r | exact jd_n | exact jd_f | decide | (simp (disch := omega) only [jr_told, Option.isSome_some])) only [jr_told, Option.isSome_some, Option.getD_some, Option.toList_some, Option.toList_none, List.cons_append, List.nil_append, E59_173, E59_175, E59_178, E59_179, E59_182, E59_183, E59_184, E59_185, E59_188, E59_189, E59_190, E59_191, E59_194, nI_leI, nI_add, if_neg (show ¬ 8 ≤ i by omega)]
    exact ih
theorem jr_dw {g : Nat} : ∀ (t w : Nat) (v : Int64), w + t = 5 → jv_ev (jv_run (d + 1)) 59 210 [some (.ref m), some (.long v), none, some (.int (nI g)), some (.int (nI w))] [] (jr_H m rest z) = jv_ev (jv_run (d + 1)) 59 237 [some (.ref m), some (.long (jg_w g w t v)), none, some (.int (nI g)), some (.int (nI 5))] [] (jr_H m rest z)
  | 0, w, v, hi => by
    have e : w = 5 := by omega
    subst e
    rw [E59_210]
    simp (disch := first | omega | exact id rfl | exact jd_i | exact jd_r | exact jd_n | exact jd_f | decide) only [E59_212, E59_213, if_pos (show nI 5 ≤ nI 5 by decide)]
    rfl
  | t + 1, w, v, hi => by
    have ih := jr_dw (g := g) t (w + 1) (v * 31 + (jc_fr (nI g) (nI w)).toInt64) (by omega)
    rw [E59_210]
    simp (disch := first | omega | exact id rfl | exact jd_i | exact jd_r | exact jd_n | exact jd_f | decide | (simp (disch := omega) only [jr_frame, Option.isSome_some])) only [jr_frame, Option.isSome_some, Option.getD_some, Option.toList_some, Option.toList_none, List.cons_append, List.nil_append, E59_212, E59_213, E59_216, E59_217, E59_220, E59_221, E59_222, E59_223, E59_225, E59_228, E59_229, E59_230, E59_231, E59_234, nI_leI, nI_add, if_neg (show ¬ 5 ≤ w by omega)]
    exact ih
theorem jr_dg : ∀ (t g : Nat) (v : Int64) (l4 : Option Value), g + t = 7 → jv_ev (jv_run (d + 1)) 59 199 [some (.ref m), some (.long v), none, some (.int (nI g)), l4] [] (jr_H m rest z) = some (some (.long (jg_g g t v)), jr_H m rest z)
  | 0, g, v, l4, hi => by
    have e : g = 7 := by omega
    subst e
    rw [E59_199]
    simp (disch := first | omega | exact id rfl | exact jd_i | exact jd_r | exact jd_n | exact jd_f | decide) only [E59_200, E59_201, E59_204, if_pos (show jm_I0 0 ≤ nI 7 by decide), E59_243, E59_244]
    rfl
  | t + 1, g, v, l4, hi => by
    have ih := jr_dg t (g + 1) (jg_w g 0 5 v) (some (.int (nI 5))) (by omega)
    rw [E59_199]
    simp (disch := first | omega | exact id rfl | exact jd_i | exact jd_r | exact jd_n | exact jd_f | decide) only [E59_200, E59_201, E59_204, E59_207, E59_208, if_neg (show ¬ jm_I0 0 ≤ nI g from nI_ge (by omega) (by decide))]
    rw [jr_dw 5 0 v rfl]
    simp (disch := first | omega | exact id rfl | exact jd_i | exact jd_r | exact jd_n | exact jd_f | decide) only [E59_237, E59_240, nI_add]
    exact ih
theorem jr_digest : jv_run (d + 2) 59 [.ref m] (jr_H m rest z) = some (some (.long jg_all), jr_H m rest z) := by
  rw [N59]
  simp (disch := first | omega | exact id rfl | exact jd_i | exact jd_r | exact jd_n | exact jd_f | decide) only [E59_0, E59_3, E59_4, E59_5]
  rw [E59_6]
  simp (disch := first | omega | exact id rfl | exact jd_i | exact jd_r | exact jd_n | exact jd_f | decide) only [E59_7, E59_8, E59_11, if_pos (show jm_I0 5 ≤ nI 0 by decide), E59_158, E59_159, E59_162, E59_163, E59_164, E59_167, E59_168, E59_169, E59_170, E59_171]
  rw [jr_dt 8 0 _ none rfl]
  simp (disch := first | omega | exact id rfl | exact jd_i | exact jd_r | exact jd_n | exact jd_f | decide) only [E59_197, E59_198]
  rw [jr_dg 7 0 _ none rfl]
  rfl
end JR2
