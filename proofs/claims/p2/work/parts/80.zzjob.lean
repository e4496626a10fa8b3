/-! the reference takes a job -/
section JS2
variable {d m : Nat} {I : Nat → Int32} {A : Nat → Nat → Int32} {L : Nat → Nat → Int64} {rest : Nat → Option jv_C} {z : Nat × Nat} {n J : Nat} {F S : Nat → Option Nat} {E : Nat → Bool} {q : List (Bool × Nat)} {w : Option (Bool × Nat × Nat)}
theorem js_vv {α : Type} {f : Nat → α} {k : Nat} {a b : α} : va_up (va_up f k a) k b = va_up f k b := by
  funext i
  unfold va_up
  split <;> rfl
/-- when a job is refused -/
def jq_no (I : Nat → Int32) (li k : Int32) : Prop := I 5 = nI 12 ∨ li < nI 1 ∨ nI 10000 < li ∨ k < nI 1 ∨ ¬ k ≤ I 2 ∨ ¬ I 22 + (k + nI 15) / nI 16 ≤ nI 64
theorem js_job_no {li k : Int32} (h : jq_no I li k) : jv_run (d + 1) 6 [.ref m, .int li, .int k] (jm_H m I A L rest z) = some (some (.int (-1)), jm_H m I A L rest z) := by
  have n16 : ¬ nI 16 = 0 := by decide
  rw [N6]
  by_cases c1 : I 5 = nI 12
  · simp (disch := first | omega | exact id rfl | exact jd_i | exact jd_r | exact jd_n | exact jd_f | decide) only [E6_0, E6_1, E6_4, E6_6, E6_9, E6_10, E6_11, E6_14, E6_15, E6_18, E6_21, E6_22, E6_23, E6_26, E6_27, E6_28, E6_31, E6_34, E6_35, E6_36, E6_37, E6_39, E6_40, E6_42, E6_43, E6_44, E6_45, E6_48, E6_49, E6_50, E6_52, E6_55, E6_56, if_pos c1]
  · by_cases c2 : li < nI 1
    · simp (disch := first | omega | exact id rfl | exact jd_i | exact jd_r | exact jd_n | exact jd_f | decide) only [E6_0, E6_1, E6_4, E6_6, E6_9, E6_10, E6_11, E6_14, E6_15, E6_18, E6_21, E6_22, E6_23, E6_26, E6_27, E6_28, E6_31, E6_34, E6_35, E6_36, E6_37, E6_39, E6_40, E6_42, E6_43, E6_44, E6_45, E6_48, E6_49, E6_50, E6_52, E6_55, E6_56, if_neg c1, if_pos c2]
    · by_cases c3 : nI 10000 < li
      · simp (disch := first | omega | exact id rfl | exact jd_i | exact jd_r | exact jd_n | exact jd_f | decide) only [E6_0, E6_1, E6_4, E6_6, E6_9, E6_10, E6_11, E6_14, E6_15, E6_18, E6_21, E6_22, E6_23, E6_26, E6_27, E6_28, E6_31, E6_34, E6_35, E6_36, E6_37, E6_39, E6_40, E6_42, E6_43, E6_44, E6_45, E6_48, E6_49, E6_50, E6_52, E6_55, E6_56, if_neg c1, if_neg c2, if_pos c3]
      · by_cases c4 : k < nI 1
        · simp (disch := first | omega | exact id rfl | exact jd_i | exact jd_r | exact jd_n | exact jd_f | decide) only [E6_0, E6_1, E6_4, E6_6, E6_9, E6_10, E6_11, E6_14, E6_15, E6_18, E6_21, E6_22, E6_23, E6_26, E6_27, E6_28, E6_31, E6_34, E6_35, E6_36, E6_37, E6_39, E6_40, E6_42, E6_43, E6_44, E6_45, E6_48, E6_49, E6_50, E6_52, E6_55, E6_56, if_neg c1, if_neg c2, if_neg c3, if_pos c4]
        · by_cases c5 : k ≤ I 2
          · have c6 : ¬ I 22 + (k + nI 15) / nI 16 ≤ nI 64 := by
              rcases h with u | u | u | u | u | u
              · exact absurd u c1
              · exact absurd u c2
              · exact absurd u c3
              · exact absurd u c4
              · exact absurd c5 u
              · exact u
            simp (disch := first | omega | exact id rfl | exact jd_i | exact jd_r | exact jd_n | exact jd_f | decide | (simp (disch := omega) only [n16, Option.isSome_some])) only [n16, Option.isSome_some, Option.getD_some, Option.toList_some, Option.toList_none, List.cons_append, List.nil_append, E6_0, E6_1, E6_4, E6_6, E6_9, E6_10, E6_11, E6_14, E6_15, E6_18, E6_21, E6_22, E6_23, E6_26, E6_27, E6_28, E6_31, E6_34, E6_35, E6_36, E6_37, E6_39, E6_40, E6_42, E6_43, E6_44, E6_45, E6_48, E6_49, E6_50, E6_52, E6_55, E6_56, if_neg c1, if_neg c2, if_neg c3, if_neg c4, if_pos c5, if_neg c6]
          · simp (disch := first | omega | exact id rfl | exact jd_i | exact jd_r | exact jd_n | exact jd_f | decide) only [E6_0, E6_1, E6_4, E6_6, E6_9, E6_10, E6_11, E6_14, E6_15, E6_18, E6_21, E6_22, E6_23, E6_26, E6_27, E6_28, E6_31, E6_34, E6_35, E6_36, E6_37, E6_39, E6_40, E6_42, E6_43, E6_44, E6_45, E6_48, E6_49, E6_50, E6_52, E6_55, E6_56, if_neg c1, if_neg c2, if_neg c3, if_neg c4, if_neg c5]
theorem js_job_a {j kk : Nat} {li : Int32} {l3 l6 : Option Value} (hj : j < 12) (hk : kk ≤ 1000) : ∀ (t i : Nat), i + t = kk → ∀ (L : Nat → Nat → Int64), ∃ L', jv_ev (jv_run d) 6 84 [some (.ref m), some (.int li), some (.int (nI kk)), l3, some (.int (nI j)), some (.int (nI i)), l6] [] (jm_H m I A L rest z) = jv_ev (jv_run d) 6 117 [some (.ref m), some (.int li), some (.int (nI kk)), l3, some (.int (nI j)), some (.int (nI kk)), l6] [] (jm_H m I A L' rest z)
  | 0, i, hi, L => by
    have e : i = kk := by omega
    subst e
    refine ⟨L, ?_⟩
    rw [E6_84]
    simp (disch := first | omega | exact id rfl | exact jd_i | exact jd_r | exact jd_n | exact jd_f | decide) only [E6_86, E6_87, nI_leI, if_pos (Nat.le_refl i)]
  | t + 1, i, hi, L => by
    obtain ⟨L', ih⟩ := js_job_a (li := li) (l3 := l3) (l6 := l6) hj hk t (i + 1) (by omega) (va_up L 12 (vp_updL (L 12) (1024 * j + i) (L 1 i)))
    refine ⟨L', ?_⟩
    rw [← ih, E6_84]
    simp (disch := first | omega | exact id rfl | exact jd_i | exact jd_r | exact jd_n | exact jd_f | decide) only [E6_86, E6_87, E6_90, E6_91, E6_94, E6_97, E6_99, E6_100, E6_102, E6_103, E6_104, E6_107, E6_109, E6_110, E6_111, E6_114, nI_leI, if_neg (show ¬ kk ≤ i by omega), pk_mul, nI_add]
theorem js_job_b {j tp : Nat} {li : Int32} {l2 l3 l6 : Option Value} (hj : j < 12) (hk : tp ≤ 2000) (h4 : I 4 = nI tp) : ∀ (t i : Nat), i + t = tp → ∀ (A : Nat → Nat → Int32), ∃ r, jv_ev (jv_run d) 6 120 [some (.ref m), some (.int li), l2, l3, some (.int (nI j)), some (.int (nI i)), l6] [] (jm_H m I A L rest z) = jv_ev (jv_run d) 6 156 [some (.ref m), some (.int li), l2, l3, some (.int (nI j)), some (.int (nI tp)), l6] [] (jm_H m I (va_up A 13 r) L rest z)
  | 0, i, hi, A => by
    have e : i = tp := by omega
    subst e
    refine ⟨A 13, ?_⟩
    have e1 : va_up A 13 (A 13) = A := by
      funext k
      unfold va_up
      split
      · rename_i h
        rw [h]
      · rfl
    rw [e1, E6_120]
    simp (disch := first | omega | exact id rfl | exact jd_i | exact jd_r | exact jd_n | exact jd_f | decide) only [E6_122, E6_123, E6_126, h4, nI_leI, if_pos (Nat.le_refl i)]
  | t + 1, i, hi, A => by
    obtain ⟨r, ih⟩ := js_job_b (li := li) (l2 := l2) (l3 := l3) (l6 := l6) hj hk h4 t (i + 1) (by omega) (va_up A 13 (upd (A 13) (2000 * j + i) (A 3 i)))
    refine ⟨r, ?_⟩
    rw [js_vv] at ih
    rw [← ih, E6_120]
    simp (disch := first | omega | exact id rfl | exact jd_i | exact jd_r | exact jd_n | exact jd_f | decide) only [E6_122, E6_123, E6_126, E6_129, E6_130, E6_133, E6_136, E6_138, E6_139, E6_141, E6_142, E6_143, E6_146, E6_148, E6_149, E6_150, E6_153, h4, nI_leI, if_neg (show ¬ tp ≤ i by omega), pk_mul, nI_add]
theorem js_job_c {j : Nat} {li : Int32} {l2 l3 l6 : Option Value} (hj : j < 12) : ∀ (t i : Nat), i + t = 64 → ∀ (A : Nat → Nat → Int32), ∃ r, jv_ev (jv_run d) 6 180 [some (.ref m), some (.int li), l2, l3, some (.int (nI j)), some (.int (nI i)), l6] [] (jm_H m I A L rest z) = jv_ev (jv_run d) 6 207 [some (.ref m), some (.int li), l2, l3, some (.int (nI j)), some (.int (nI 64)), l6] [] (jm_H m I (va_up A 21 r) L rest z)
  | 0, i, hi, A => by
    have e : i = 64 := by omega
    subst e
    refine ⟨A 21, ?_⟩
    have e1 : va_up A 21 (A 21) = A := by
      funext k
      unfold va_up
      split
      · rename_i h
        rw [h]
      · rfl
    rw [e1, E6_180]
    simp (disch := first | omega | exact id rfl | exact jd_i | exact jd_r | exact jd_n | exact jd_f | decide) only [E6_182, E6_184, nI_leI, if_pos (Nat.le_refl 64)]
  | t + 1, i, hi, A => by
    obtain ⟨r, ih⟩ := js_job_c (li := li) (l2 := l2) (l3 := l3) (l6 := l6) hj t (i + 1) (by omega) (va_up A 21 (upd (A 21) (64 * j + i) (-1)))
    refine ⟨r, ?_⟩
    rw [js_vv] at ih
    rw [← ih, E6_180]
    simp (disch := first | omega | exact id rfl | exact jd_i | exact jd_r | exact jd_n | exact jd_f | decide) only [E6_182, E6_184, E6_187, E6_188, E6_191, E6_193, E6_195, E6_196, E6_198, E6_199, E6_200, E6_201, E6_204, nI_leI, if_neg (show ¬ 64 ≤ i by omega), pk_mul, nI_add]
/-- the next free sector -/
theorem js_job_s {p : Nat} {l1 l2 l3 l4 l6 : Option Value} (hl4 : ¬ jv_is2 (some l4) = true) (hp : p < 64) (h1 : A 28 p < 0) (h2 : ∀ i, i < p → ¬ A 28 i < 0) : ∀ (t i : Nat), i + t = p → jv_ev (jv_run d) 6 219 [some (.ref m), l1, l2, l3, l4, some (.int (nI i)), l6] [] (jm_H m I A L rest z) = jv_ev (jv_run d) 6 235 [some (.ref m), l1, l2, l3, l4, some (.int (nI p)), l6] [] (jm_H m I A L rest z)
  | 0, i, hi => by
    have e : i = p := by omega
    subst e
    rw [E6_219]
    simp (disch := first | omega | exact id rfl | exact jd_i | exact jd_r | exact jd_n | exact jd_f | decide) only [E6_220, E6_223, E6_225, E6_226, if_pos h1]
  | t + 1, i, hi => by
    have ih := js_job_s (l1 := l1) (l2 := l2) (l3 := l3) (l4 := l4) (l6 := l6) hl4 hp h1 h2 t (i + 1) (by omega)
    rw [← ih, E6_219]
    simp (disch := first | omega | exact id rfl | exact jd_i | exact jd_r | exact jd_n | exact jd_f | decide | (simp (disch := omega) only [hl4, Option.isSome_some])) only [hl4, Option.isSome_some, Option.getD_some, Option.toList_some, Option.toList_none, List.cons_append, List.nil_append, E6_220, E6_223, E6_225, E6_226, E6_229, E6_232, if_neg (h2 i (by omega)), nI_add]
theorem js_load {s B : Nat} (hX : js_X I A n J F S E q w) (hs : S s = none) (hs64 : s < 64) (hBJ : B < 64 * J) (he : ¬ E B = true) (hc : jz_cnt E 768 < 64) : js_X (upd I 22 (I 22 + nI 1)) (va_up (va_up A 28 (upd (A 28) s (nI B))) 20 (upd (A 20) B (nI 1))) n J F (va_up S s (some B)) (va_up E B true) q w := by
  obtain ⟨hB, ⟨h1, h2, h3, h4, h5, h6, h7, h8, h9, h10, h11, h12, h13, h14, h15⟩, hP, hW⟩ := hX
  have hB768 : B < 768 := by omega
  refine ⟨jr_bI (jr_bA (jr_bA hB (js_ub hB (fun b hb => by cases hb; exact ⟨by rw [nI_toInt (by omega)]; simp only; omega, by rw [nI_toInt (by omega)]; simp only; omega⟩))) (js_ub hB (fun b hb => by cases hb; exact ⟨by decide, by decide⟩))) (fun b hb => by cases hb), ⟨h1, h2, h3, h4, h5, h6, fun t ht => ?_, fun k' hk' => ?_, h9, h10, h11, h12, h13, ?_, h15⟩, jz_load hP hs hs64 hBJ hB768 he hc, hW⟩
  · show (if t = s then nI B else A 28 t) = _
    by_cases y : t = s
    · rw [if_pos y, y, jz_us]; rfl
    · rw [if_neg y, jz_un y]; exact h7 t ht
  · show (if k' = B then nI 1 else A 20 k') = _
    by_cases y : k' = B
    · rw [if_pos y, y, jz_us]; rfl
    · rw [if_neg y, jz_un y]; exact h8 k' hk'
  · show I 22 + nI 1 = _
    rw [h14, nI_add, jz_cnt_add hB768 he]
theorem js_job_d {j nb : Nat} {li : Int32} {l2 : Option Value} (hj : j < J) (hnb : nb ≤ 64) : ∀ (t k : Nat), k + t = nb → ∀ (s : Nat) (I : Nat → Int32) (A : Nat → Nat → Int32) (S : Nat → Option Nat) (E : Nat → Bool), js_X I A n J F S E q w → (∀ k', k ≤ k' → k' < 64 → ¬ E (64 * j + k') = true) → jz_cnt E 768 + t ≤ 64 → (∀ p, p < s → ¬ S p = none) → ∃ I' A', jv_ev (jv_run (d + 1)) 6 213 [some (.ref m), some (.int li), l2, some (.int (nI nb)), some (.int (nI j)), some (.int (nI s)), some (.int (nI k))] [] (jm_H m I A L rest z) = some (some (.int (nI j)), jm_H m I' A' L rest z) ∧ js_T I' A' ∧ I' 5 = I 5 := by
  intro t
  induction t with
  | zero =>
    intro k hk s I A S E hX hE hc hs
    have hJ := hX.2.1.2.2.2.2.1
    have e : k = nb := by omega
    subst e
    refine ⟨I, A, ?_, js_X_T hX, rfl⟩
    rw [E6_213]
    simp (disch := first | omega | exact id rfl | exact jd_i | exact jd_r | exact jd_n | exact jd_f | decide) only [E6_215, E6_216, E6_268, E6_270, nI_leI, if_pos (Nat.le_refl k)]
  | succ t IH =>
    intro k hk s I A S E hX hE hc hs
    have hX' := hX
    obtain ⟨hB, ⟨h1, h2, h3, h4, h5, h6, h7, h8, h9, h10, h11, h12, h13, h14, h15⟩, hP, hW⟩ := hX'
    have hkS : ∀ f k, S f = some k → k < 768 := fun f k e => by have := (hP.2.1 f k e).2; omega
    have hneg : ∀ p, p < 64 → (A 28 p < 0 ↔ S p = none) := fun p hp => by
      rw [h7 p hp, jq_o0 _ (fun k' e => by have := hkS p k' e; omega)]
    obtain ⟨p0, hp0, ep0⟩ := jz_free hP.2.2.2.1 hkS (E' := E) (fun s k e => (hP.2.2.2.2.1 k).mpr (Or.inr ⟨s, e⟩)) (show jz_cnt E 768 < 64 by omega)
    obtain ⟨p, ⟨hp, ep⟩, hlow⟩ := pk_least (fun p => p < 64 ∧ S p = none) ⟨p0, hp0, ep0⟩
    have hsp : s ≤ p := by
      apply Classical.byContradiction
      intro hn
      exact hs p (by omega) ep
    have hE' : ¬ E (64 * j + k) = true := hE k (Nat.le_refl _) (by omega)
    have hX2 := js_load hX ep hp (show 64 * j + k < 64 * J by omega) hE' (by omega)
    have hcn : jz_cnt (va_up E (64 * j + k) true) 768 = jz_cnt E 768 + 1 := jz_cnt_add (by omega) hE'
    obtain ⟨I', A', ih, ih2, ih3⟩ := IH (k + 1) (by omega) p _ _ _ _ hX2 (fun k' a b => by rw [jz_un (by omega)]; exact hE k' (by omega) b) (by omega) (fun p' hp' => by
      rw [jz_un (by omega)]
      exact fun e => hlow p' hp' ⟨by omega, e⟩)
    refine ⟨I', A', ?_, ih2, ih3⟩
    rw [← ih, E6_213]
    have sl := js_job_s (d := d + 1) (m := m) (I := I) (A := A) (L := L) (rest := rest) (z := z) (l1 := some (.int li)) (l2 := l2) (l3 := some (.int (nI nb))) (l4 := some (.int (nI j))) (l6 := some (.int (nI k))) jd_i hp ((hneg p hp).mpr ep) (fun i hi e => hlow i hi ⟨by omega, (hneg i (by omega)).mp e⟩) (p - s) s (by omega)
    have hex := jx_exist (d := d) (m := m) (I := I) (A := va_up A 28 (upd (A 28) p (nI (64 * j + k)))) (L := L) (rest := rest) (z := z) (show 64 * j + k < 768 by omega)
    have x1 : va_up A 28 (upd (A 28) p (nI (64 * j + k))) 20 = A 20 := rfl
    rw [x1] at hex
    simp (disch := first | omega | exact id rfl | exact jd_i | exact jd_r | exact jd_n | exact jd_f | decide) only [E6_215, E6_216, nI_leI, if_neg (show ¬ nb ≤ k by omega)]
    rw [sl]
    simp (disch := first | omega | exact id rfl | exact jd_i | exact jd_r | exact jd_n | exact jd_f | decide | (simp (disch := omega) only [hex, Option.isSome_some])) only [hex, Option.isSome_some, Option.getD_some, Option.toList_some, Option.toList_none, List.cons_append, List.nil_append, E6_235, E6_236, E6_239, E6_241, E6_243, E6_245, E6_246, E6_248, E6_249, E6_250, E6_251, E6_253, E6_255, E6_256, E6_258, E6_259, E6_262, E6_265, pk_mul, nI_add]
theorem js_job_yes {li k : Int32} (hT : js_T I A) (h : ¬ jq_no I li k) : ∃ x I' A' L', jv_run (d + 2) 6 [.ref m, .int li, .int k] (jm_H m I A L rest z) = some (some (.int x), jm_H m I' A' L' rest z) ∧ js_T I' A' ∧ ∃ j, 1 ≤ j ∧ j ≤ 12 ∧ I' 5 = nI j := by
  have n16 : ¬ nI 16 = 0 := by decide
  have c1 : ¬ I 5 = nI 12 := fun u => h (Or.inl u)
  have c2 : ¬ li < nI 1 := fun u => h (Or.inr (Or.inl u))
  have c3 : ¬ nI 10000 < li := fun u => h (Or.inr (Or.inr (Or.inl u)))
  have c4 : ¬ k < nI 1 := fun u => h (Or.inr (Or.inr (Or.inr (Or.inl u))))
  have c5 : k ≤ I 2 := Classical.byContradiction (fun u => h (Or.inr (Or.inr (Or.inr (Or.inr (Or.inl u))))))
  have c6 : I 22 + (k + nI 15) / nI 16 ≤ nI 64 := Classical.byContradiction (fun u => h (Or.inr (Or.inr (Or.inr (Or.inr (Or.inr u))))))
  obtain ⟨tw, htw, e2⟩ := jr_nat (n := 1000) (hT.1.1 2 _ rfl)
  obtain ⟨tp, htp, e4⟩ := jr_nat (n := 2000) (hT.1.1 4 _ rfl)
  have c0 : ¬ k < 0 := fun h => c4 (Int32.lt_trans h (show (0 : Int32) < nI 1 by decide))
  obtain ⟨kk, hkk, rfl⟩ := nI_of c0
  have hkw : kk ≤ 1000 := by
    rw [e2, nI_leI hkk (by omega)] at c5
    omega
  have eb : (nI kk + nI 15) / nI 16 = nI ((kk + 15) / 16) := by rw [nI_add, pk_div (by omega) (by decide) (by decide)]
  obtain ⟨n, J, F, S, E, q, w, hX⟩ := js_T_X hT
  have hX' := hX
  obtain ⟨hB, ⟨h1, h2, h3, h4, h5, h6, h7, h8, h9, h10, h11, h12, h13, h14, h15⟩, hP, hW⟩ := hX'
  have hJ : J < 12 := by
    apply Classical.byContradiction
    intro hn
    exact c1 (by rw [h4, show J = 12 by omega])
  have hcn : jz_cnt E 768 + (kk + 15) / 16 ≤ 64 := by
    have := hP.2.2.2.2.2.2.2.2.2
    rw [h14, eb, nI_add, nI_leI (by omega) (by decide)] at c6
    exact c6
  have hEn : ∀ k', ¬ E (64 * J + k') = true := fun k' e => by
    rcases (hP.2.2.2.2.1 _).mp e with ⟨f, u⟩ | ⟨s, u⟩
    · have := (hP.1 f _ u).2; omega
    · have := (hP.2.1 s _ u).2; omega
  rw [N6]
  -- the way to the first loop
  have s1 : jv_ev (jv_run (d + 1)) 6 0 [some (.ref m), some (.int li), some (.int (nI kk)), none, none, none, none] [] (jm_H m I A L rest z) = jv_ev (jv_run (d + 1)) 6 84 [some (.ref m), some (.int li), some (.int (nI kk)), some (.int (nI ((kk + 15) / 16))), some (.int (nI J)), some (.int (nI 0)), none] [] (jm_H m (upd I 5 (nI (J + 1))) (va_up A 6 (upd (A 6) J li)) L rest z) := by
    have c1' : ¬ nI J = nI 12 := by rw [← h4]; exact c1
    rw [eb] at c6
    have eb' : nI (kk + 15) / nI 16 = nI ((kk + 15) / 16) := by rw [← eb, nI_add]
    simp (disch := first | omega | exact id rfl | exact jd_i | exact jd_r | exact jd_n | exact jd_f | decide | (simp (disch := omega) only [n16, Option.isSome_some])) only [n16, Option.isSome_some, Option.getD_some, Option.toList_some, Option.toList_none, List.cons_append, List.nil_append, E6_0, E6_1, E6_4, E6_6, E6_9, E6_10, E6_11, E6_14, E6_15, E6_18, E6_21, E6_22, E6_23, E6_26, E6_27, E6_28, E6_31, E6_34, E6_35, E6_36, E6_37, E6_39, E6_40, E6_42, E6_43, E6_44, E6_45, E6_48, E6_49, E6_50, E6_52, E6_55, E6_56, E6_57, E6_58, E6_61, E6_63, E6_64, E6_64i, E6_65, E6_68, E6_69, E6_70, E6_73, E6_74, E6_77, E6_79, E6_80, E6_81, E6_82, h4, if_neg c1', if_neg c2, if_neg c3, if_neg c4, if_pos c5, eb', if_pos c6, nI_add]
  obtain ⟨L1, s2⟩ := js_job_a (d := d + 1) (m := m) (I := upd I 5 (nI (J + 1))) (A := va_up A 6 (upd (A 6) J li)) (rest := rest) (z := z) (li := li) (l3 := some (.int (nI ((kk + 15) / 16)))) (l6 := none) hJ hkw kk 0 (by omega) L
  obtain ⟨r1, s3⟩ := js_job_b (d := d + 1) (m := m) (I := upd I 5 (nI (J + 1))) (L := L1) (rest := rest) (z := z) (li := li) (l2 := some (.int (nI kk))) (l3 := some (.int (nI ((kk + 15) / 16)))) (l6 := none) hJ htp (show upd I 5 (nI (J + 1)) 4 = nI tp from e4) tp 0 (by omega) (va_up A 6 (upd (A 6) J li))
  have s2' : jv_ev (jv_run (d + 1)) 6 117 [some (.ref m), some (.int li), some (.int (nI kk)), some (.int (nI ((kk + 15) / 16))), some (.int (nI J)), some (.int (nI kk)), none] [] (jm_H m (upd I 5 (nI (J + 1))) (va_up A 6 (upd (A 6) J li)) L1 rest z) = jv_ev (jv_run (d + 1)) 6 120 [some (.ref m), some (.int li), some (.int (nI kk)), some (.int (nI ((kk + 15) / 16))), some (.int (nI J)), some (.int (nI 0)), none] [] (jm_H m (upd I 5 (nI (J + 1))) (va_up A 6 (upd (A 6) J li)) L1 rest z) := by
    simp (disch := first | omega | exact id rfl | exact jd_i | exact jd_r | exact jd_n | exact jd_f | decide) only [E6_117, E6_118]
  obtain ⟨r2, s5⟩ := js_job_c (d := d + 1) (m := m) (I := upd (upd (upd I 5 (nI (J + 1))) 2 (nI 0)) 4 (nI 0)) (L := L1) (rest := rest) (z := z) (li := li) (l2 := some (.int (nI kk))) (l3 := some (.int (nI ((kk + 15) / 16)))) (l6 := none) hJ 64 0 (by omega) (va_up (va_up (va_up A 6 (upd (A 6) J li)) 13 r1) 14 (upd (A 14) J (nI tp)))
  have s4 : jv_ev (jv_run (d + 1)) 6 156 [some (.ref m), some (.int li), some (.int (nI kk)), some (.int (nI ((kk + 15) / 16))), some (.int (nI J)), some (.int (nI tp)), none] [] (jm_H m (upd I 5 (nI (J + 1))) (va_up (va_up A 6 (upd (A 6) J li)) 13 r1) L1 rest z) = jv_ev (jv_run (d + 1)) 6 180 [some (.ref m), some (.int li), some (.int (nI kk)), some (.int (nI ((kk + 15) / 16))), some (.int (nI J)), some (.int (nI 0)), none] [] (jm_H m (upd (upd (upd I 5 (nI (J + 1))) 2 (nI 0)) 4 (nI 0)) (va_up (va_up (va_up A 6 (upd (A 6) J li)) 13 r1) 14 (upd (A 14) J (nI tp))) L1 rest z) := by
    have x1 : va_up (va_up A 6 (upd (A 6) J li)) 13 r1 14 = A 14 := rfl
    have x2 : upd I 5 (nI (J + 1)) 4 = nI tp := e4
    simp (disch := first | omega | exact id rfl | exact jd_i | exact jd_r | exact jd_n | exact jd_f | decide) only [E6_156, E6_157, E6_160, E6_162, E6_163, E6_166, E6_167, E6_168, E6_169, E6_172, E6_173, E6_174, E6_177, E6_178, x1, x2]
  have hX2 : js_X (upd (upd (upd I 5 (nI (J + 1))) 2 (nI 0)) 4 (nI 0)) (va_up (va_up (va_up (va_up A 6 (upd (A 6) J li)) 13 r1) 14 (upd (A 14) J (nI tp))) 21 r2) n (J + 1) F S E q w :=
    ⟨jr_bI (jr_bI (jr_bI (jr_bA (jr_bA (jr_bA (jr_bA hB (fun b hb => by cases hb)) (fun b hb => by cases hb)) (js_ub hB (fun b hb => by cases hb; exact jr_nb (lo := 0) (hi := 2000) (by omega) htp (by decide)))) (fun b hb => by cases hb)) (fun b hb => by cases hb; exact jr_nb (lo := 0) (hi := 12) (by omega) (by omega) (by decide))) (fun b hb => by cases hb; exact ⟨by decide, by decide⟩)) (fun b hb => by cases hb; exact ⟨by decide, by decide⟩), ⟨h1, h2, h3, rfl, by omega, h6, h7, h8, h9, h10, h11, h12, h13, h14, by
      rcases h15 with u | ⟨j, hj, u⟩
      · exact Or.inl u
      · exact Or.inr ⟨j, by omega, u⟩⟩, jz_more (by omega) hP, hW⟩
  obtain ⟨I', A', s6, s7, s8⟩ := js_job_d (d := d) (m := m) (L := L1) (rest := rest) (z := z) (j := J) (nb := (kk + 15) / 16) (li := li) (l2 := some (.int (nI kk))) (by omega) (by omega) ((kk + 15) / 16) 0 (by omega) 0 _ _ _ _ hX2 (fun k' _ _ => hEn k') (by omega) (fun p hp => by omega)
  refine ⟨nI J, I', A', L1, ?_, s7, J + 1, by omega, by omega, s8⟩
  rw [s1, s2, s2', s3, s4, s5, ← s6]
  simp (disch := first | omega | exact id rfl | exact jd_i | exact jd_r | exact jd_n | exact jd_f | decide) only [E6_207, E6_208, E6_210, E6_211]
end JS2
