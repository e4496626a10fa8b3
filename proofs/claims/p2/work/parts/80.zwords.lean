/-! the reference's tray; what is asked of it -/
section JS2
variable {d m : Nat} {I : Nat → Int32} {A : Nat → Nat → Int32} {L : Nat → Nat → Int64} {rest : Nat → Option jv_C} {z : Nat × Nat} {n J : Nat} {F S : Nat → Option Nat} {E : Nat → Bool} {q : List (Bool × Nat)} {w : Option (Bool × Nat × Nat)}
theorem js_words {a0 a1 a2 a3 a4 : Int64} {v : Nat} (hT : js_T I A) (hv : I 2 = nI v) (hv2 : v ≤ 1000) : ∃ x I' L', jv_run (d + 2) 4 [.ref m, .long a0, .long a1, .long a2, .long a3, .long a4] (jm_H m I A L rest z) = some (some (.int x), jm_H m I' A L' rest z) ∧ js_T I' A ∧ I' 5 = I 5 ∧ I' 2 = nI (if v + 5 ≤ 1000 then v + 5 else v) := by
  rw [N4]
  by_cases c : v + 5 ≤ 1000
  · have s0 : jv_ev (jv_run (d + 1)) 4 0 [some (.ref m), some (.long a0), none, some (.long a1), none, some (.long a2), none, some (.long a3), none, some (.long a4), none] [] (jm_H m I A L rest z) = jv_ev (jv_run (d + 1)) 4 14 [some (.ref m), some (.long a0), none, some (.long a1), none, some (.long a2), none, some (.long a3), none, some (.long a4), none] [] (jm_H m I A L rest z) := by
      simp (disch := first | omega | exact id rfl | exact jd_i | exact jd_r | exact jd_n | exact jd_f | decide) only [E4_0, E4_1, E4_4, E4_5, E4_6, E4_9, E4_12, E4_13, hv, nI_add, nI_leI, if_pos c]
    have s1 : ∀ L : Nat → Nat → Int64, jv_ev (jv_run (d + 1)) 4 14 [some (.ref m), some (.long a0), none, some (.long a1), none, some (.long a2), none, some (.long a3), none, some (.long a4), none] [] (jm_H m I A L rest z) = jv_ev (jv_run (d + 1)) 4 27 [some (.ref m), some (.long a0), none, some (.long a1), none, some (.long a2), none, some (.long a3), none, some (.long a4), none] [] (jm_H m I A (va_up L 1 (vp_updL (L 1) v (jq_w48 a0))) rest z) := fun L => by
      simp (disch := first | omega | exact id rfl | exact jd_i | exact jd_r | exact jd_n | exact jd_f | decide | (simp (disch := omega) only [jx_word48, Option.isSome_some])) only [jx_word48, Option.isSome_some, Option.getD_some, Option.toList_some, Option.toList_none, List.cons_append, List.nil_append, E4_14, E4_15, E4_18, E4_19, E4_22, E4_23, E4_26, hv]
    have s2 : ∀ L : Nat → Nat → Int64, jv_ev (jv_run (d + 1)) 4 27 [some (.ref m), some (.long a0), none, some (.long a1), none, some (.long a2), none, some (.long a3), none, some (.long a4), none] [] (jm_H m I A L rest z) = jv_ev (jv_run (d + 1)) 4 42 [some (.ref m), some (.long a0), none, some (.long a1), none, some (.long a2), none, some (.long a3), none, some (.long a4), none] [] (jm_H m I A (va_up L 1 (vp_updL (L 1) (v + 1) (jq_w48 a1))) rest z) := fun L => by
      simp (disch := first | omega | exact id rfl | exact jd_i | exact jd_r | exact jd_n | exact jd_f | decide | (simp (disch := omega) only [jx_word48, Option.isSome_some])) only [jx_word48, Option.isSome_some, Option.getD_some, Option.toList_some, Option.toList_none, List.cons_append, List.nil_append, E4_27, E4_28, E4_31, E4_32, E4_35, E4_36, E4_37, E4_38, E4_41, hv, nI_add]
    have s3 : ∀ L : Nat → Nat → Int64, jv_ev (jv_run (d + 1)) 4 42 [some (.ref m), some (.long a0), none, some (.long a1), none, some (.long a2), none, some (.long a3), none, some (.long a4), none] [] (jm_H m I A L rest z) = jv_ev (jv_run (d + 1)) 4 58 [some (.ref m), some (.long a0), none, some (.long a1), none, some (.long a2), none, some (.long a3), none, some (.long a4), none] [] (jm_H m I A (va_up L 1 (vp_updL (L 1) (v + 2) (jq_w48 a2))) rest z) := fun L => by
      simp (disch := first | omega | exact id rfl | exact jd_i | exact jd_r | exact jd_n | exact jd_f | decide | (simp (disch := omega) only [jx_word48, Option.isSome_some])) only [jx_word48, Option.isSome_some, Option.getD_some, Option.toList_some, Option.toList_none, List.cons_append, List.nil_append, E4_42, E4_43, E4_46, E4_47, E4_50, E4_51, E4_52, E4_54, E4_57, hv, nI_add]
    have s4 : ∀ L : Nat → Nat → Int64, jv_ev (jv_run (d + 1)) 4 58 [some (.ref m), some (.long a0), none, some (.long a1), none, some (.long a2), none, some (.long a3), none, some (.long a4), none] [] (jm_H m I A L rest z) = jv_ev (jv_run (d + 1)) 4 74 [some (.ref m), some (.long a0), none, some (.long a1), none, some (.long a2), none, some (.long a3), none, some (.long a4), none] [] (jm_H m I A (va_up L 1 (vp_updL (L 1) (v + 3) (jq_w48 a3))) rest z) := fun L => by
      simp (disch := first | omega | exact id rfl | exact jd_i | exact jd_r | exact jd_n | exact jd_f | decide | (simp (disch := omega) only [jx_word48, Option.isSome_some])) only [jx_word48, Option.isSome_some, Option.getD_some, Option.toList_some, Option.toList_none, List.cons_append, List.nil_append, E4_58, E4_59, E4_62, E4_63, E4_66, E4_67, E4_68, E4_70, E4_73, hv, nI_add]
    have s5 : ∀ L : Nat → Nat → Int64, jv_ev (jv_run (d + 1)) 4 74 [some (.ref m), some (.long a0), none, some (.long a1), none, some (.long a2), none, some (.long a3), none, some (.long a4), none] [] (jm_H m I A L rest z) = jv_ev (jv_run (d + 1)) 4 90 [some (.ref m), some (.long a0), none, some (.long a1), none, some (.long a2), none, some (.long a3), none, some (.long a4), none] [] (jm_H m I A (va_up L 1 (vp_updL (L 1) (v + 4) (jq_w48 a4))) rest z) := fun L => by
      simp (disch := first | omega | exact id rfl | exact jd_i | exact jd_r | exact jd_n | exact jd_f | decide | (simp (disch := omega) only [jx_word48, Option.isSome_some])) only [jx_word48, Option.isSome_some, Option.getD_some, Option.toList_some, Option.toList_none, List.cons_append, List.nil_append, E4_74, E4_75, E4_78, E4_79, E4_82, E4_83, E4_84, E4_86, E4_89, hv, nI_add]
    have s6 : ∀ L : Nat → Nat → Int64, jv_ev (jv_run (d + 1)) 4 90 [some (.ref m), some (.long a0), none, some (.long a1), none, some (.long a2), none, some (.long a3), none, some (.long a4), none] [] (jm_H m I A L rest z) = some (some (.int (nI (v + 5))), jm_H m (upd I 2 (nI (v + 5))) A L rest z) := fun L => by
      simp (disch := first | omega | exact id rfl | exact jd_i | exact jd_r | exact jd_n | exact jd_f | decide) only [E4_90, E4_91, E4_91i, E4_92, E4_95, E4_96, E4_97, E4_100, E4_101, E4_104, hv, nI_add, pk_us]
    rw [s0, s1, s2, s3, s4, s5, s6]
    obtain ⟨n, J, F, S, E, q, w, hB, hR, hP, hW⟩ := js_T_X hT
    refine ⟨_, _, _, rfl, js_X_T (n := n) (J := J) (F := F) (S := S) (E := E) (q := q) (w := w) ⟨jr_bI hB (fun b hb => by cases hb; exact jr_nb (lo := 0) (hi := 1000) (by omega) c (by decide)), hR, hP, hW⟩, rfl, ?_⟩
    rw [if_pos c]
    exact pk_us
  · refine ⟨-1, I, L, ?_, hT, rfl, by rw [if_neg c]; exact hv⟩
    simp (disch := first | omega | exact id rfl | exact jd_i | exact jd_r | exact jd_n | exact jd_f | decide) only [E4_0, E4_1, E4_4, E4_5, E4_6, E4_9, E4_12, E4_13, hv, nI_add, nI_leI, if_neg c]
theorem js_bytes_l {a0 a1 a2 a3 : Int64} {k tp : Nat} (hk : k ≤ 32) (htp : tp + k ≤ 2000) : ∀ (t i : Nat) (l11 l12 : Option Value) (I : Nat → Int32) (A : Nat → Nat → Int32), i + t = k → I 4 = nI (tp + i) → js_T I A → ∃ x I' A', jv_ev (jv_run (d + 1)) 5 30 [some (.ref m), some (.long a0), none, some (.long a1), none, some (.long a2), none, some (.long a3), none, some (.int (nI k)), some (.int (nI i)), l11, l12] [] (jm_H m I A L rest z) = some (some (.int x), jm_H m I' A' L rest z) ∧ js_T I' A' ∧ I' 5 = I 5 ∧ I' 2 = I 2
  | 0, i, l11, l12, I, A, hi, h4, hT => by
    have e : i = k := by omega
    subst e
    refine ⟨I 4, I, A, ?_, hT, rfl, rfl⟩
    rw [E5_30]
    simp (disch := first | omega | exact id rfl | exact jd_i | exact jd_r | exact jd_n | exact jd_f | decide) only [E5_32, E5_34, nI_leI, if_pos (Nat.le_refl i), E5_119, E5_120, E5_123]
  | t + 1, i, l11, l12, I, A, hi, h4, hT => by
    have e1 : nI i - nI i / nI 8 * nI 8 = nI (i % 8) := pk_rem (by omega) (by decide) (by decide)
    have key : ∀ v : Int64, ∃ x I' A', jv_ev (jv_run (d + 1)) 5 73 [some (.ref m), some (.long a0), none, some (.long a1), none, some (.long a2), none, some (.long a3), none, some (.int (nI k)), some (.int (nI i)), l11, l12] [.long v] (jm_H m I A L rest z) = some (some (.int x), jm_H m I' A' L rest z) ∧ js_T I' A' ∧ I' 5 = I 5 ∧ I' 2 = I 2 := by
      intro v
      have hT2 : js_T (upd I 4 (nI (tp + i + 1))) (va_up A 3 (upd (A 3) (tp + i) ((v >>> ((nI 56 - nI 8 * nI (i % 8)).toInt64 &&& 63)).toInt32 &&& nI 255))) := by
        obtain ⟨n, J, F, S, E, q, w, hB, hR, hP, hW⟩ := js_T_X hT
        exact js_X_T (n := n) (J := J) (F := F) (S := S) (E := E) (q := q) (w := w) ⟨jr_bI (jr_bA hB (fun b hb => by cases hb)) (fun b hb => by cases hb; exact jr_nb (lo := 0) (hi := 2000) (by omega) (by omega) (by decide)), hR, hP, hW⟩
      obtain ⟨x, I', A', ih, ih2, ih3, ih4⟩ := js_bytes_l (a0 := a0) (a1 := a1) (a2 := a2) (a3 := a3) hk htp t (i + 1) (some (.long v)) none _ _ (by omega) (show upd I 4 (nI (tp + i + 1)) 4 = nI (tp + (i + 1)) from pk_us) hT2
      refine ⟨x, I', A', ?_, ih2, ih3, ih4⟩
      rw [← ih]
      simp (disch := first | omega | exact id rfl | exact jd_i | exact jd_r | exact jd_n | exact jd_f | decide) only [E5_73, E5_75, E5_76, E5_79, E5_80, E5_83, E5_85, E5_87, E5_89, E5_91, E5_93, E5_94, E5_95, E5_96, E5_97, E5_98, E5_101, E5_102, E5_103, E5_104, E5_104i, E5_105, E5_108, E5_109, E5_110, E5_113, E5_116, h4, e1, nI_add]
    rw [E5_30]
    simp (disch := first | omega | exact id rfl | exact jd_i | exact jd_r | exact jd_n | exact jd_f | decide) only [E5_32, E5_34, E5_37, E5_39, E5_41, E5_44, E5_45, E5_48, E5_50, E5_52, E5_55, E5_56, E5_59, E5_61, E5_63, E5_66, E5_68, E5_71, nI_leI, if_neg (show ¬ k ≤ i by omega)]
    (repeat' split) <;> exact key _
theorem js_bytes {a0 a1 a2 a3 : Int64} {k : Int32} (hT : js_T I A) : ∃ x I' A', jv_run (d + 2) 5 [.ref m, .long a0, .long a1, .long a2, .long a3, .int k] (jm_H m I A L rest z) = some (some (.int x), jm_H m I' A' L rest z) ∧ js_T I' A' ∧ I' 5 = I 5 ∧ I' 2 = I 2 := by
  obtain ⟨tp, htp, e4⟩ := jr_nat (n := 2000) (hT.1.1 4 _ rfl)
  rw [N5]
  by_cases h1 : k < 0
  · refine ⟨-1, I, A, ?_, hT, rfl, rfl⟩
    simp (disch := first | omega | exact id rfl | exact jd_i | exact jd_r | exact jd_n | exact jd_f | decide) only [E5_0, E5_2, E5_25, E5_26, if_pos h1]
  · by_cases h2 : nI 32 < k
    · refine ⟨-1, I, A, ?_, hT, rfl, rfl⟩
      simp (disch := first | omega | exact id rfl | exact jd_i | exact jd_r | exact jd_n | exact jd_f | decide) only [E5_0, E5_2, E5_5, E5_7, E5_9, E5_25, E5_26, if_neg h1, if_pos h2]
    · obtain ⟨n, hn, rfl⟩ := nI_of h1
      have hn2 : n ≤ 32 := by
        rcases Nat.lt_or_ge 32 n with h | h
        · exact absurd (nI_lt h hn) h2
        · exact h
      by_cases h3 : tp + n ≤ 2000
      · obtain ⟨x, I', A', e, e2, e3, e5⟩ := js_bytes_l (d := d) (m := m) (rest := rest) (z := z) (L := L) (a0 := a0) (a1 := a1) (a2 := a2) (a3 := a3) hn2 h3 n 0 none none I A (Nat.zero_add n) e4 hT
        refine ⟨x, I', A', ?_, e2, e3, e5⟩
        simp (disch := first | omega | exact id rfl | exact jd_i | exact jd_r | exact jd_n | exact jd_f | decide) only [E5_0, E5_2, E5_5, E5_7, E5_9, E5_12, E5_13, E5_16, E5_18, E5_19, E5_22, E5_27, E5_28, if_neg h1, if_neg h2, e4, nI_add, nI_leI, if_pos h3]
        exact e
      · refine ⟨-1, I, A, ?_, hT, rfl, rfl⟩
        simp (disch := first | omega | exact id rfl | exact jd_i | exact jd_r | exact jd_n | exact jd_f | decide) only [E5_0, E5_2, E5_5, E5_7, E5_9, E5_12, E5_13, E5_16, E5_18, E5_19, E5_22, E5_25, E5_26, if_neg h1, if_neg h2, e4, nI_add, nI_leI, if_neg h3]
/-- no job was taken: nothing is there -/
theorem js_no (hX : js_X I A n 0 F S E q w) : (∀ f, F f = none) ∧ (∀ s, S s = none) ∧ q = [] ∧ w = none ∧ jz_cnt E 768 = 0 := by
  obtain ⟨hB, hR, ⟨p1, p2, p3, p4, p5, p6, p7, p8, p9, p10⟩, hW⟩ := hX
  have hF : ∀ f, F f = none := fun f => by
    cases e : F f with
    | none => rfl
    | some k => have := (p1 f k e).2; omega
  have hS : ∀ f, S f = none := fun f => by
    cases e : S f with
    | none => rfl
    | some k => have := (p2 f k e).2; omega
  refine ⟨hF, hS, ?_, ?_, ?_⟩
  · cases q with
    | nil => rfl
    | cons x q =>
      obtain ⟨b, f⟩ := x
      obtain ⟨k, e, _⟩ := p7 b f List.mem_cons_self
      rw [hF f] at e
      cases e
  · cases w with
    | none => rfl
    | some x =>
      obtain ⟨b, f, s⟩ := x
      obtain ⟨_, _, k, e, _⟩ := p8 b f s rfl
      rw [hF f] at e
      cases e
  · have hE : ∀ k, ¬ E k = true := fun k e => by
      rcases (p5 k).mp e with ⟨f, u⟩ | ⟨s, u⟩
      · rw [hF f] at u; cases u
      · rw [hS s] at u; cases u
    have : ∀ N, jz_cnt E N = 0 := fun N => by
      induction N with
      | zero => rfl
      | succ N ih => unfold jz_cnt; rw [ih, if_neg (hE N)]
    exact this 768
theorem js_frames {f : Int32} (hT : js_T I A) : ∃ I', jv_run (d + 1) 3 [.ref m, .int f] (jm_H m I A L rest z) = some (some (.int (if f < nI 3 ∨ nI 17 < f ∨ ¬ I 5 ≤ 0 then -1 else f)), jm_H m I' A L rest z) ∧ js_T I' A ∧ I' 5 = I 5 ∧ I' 2 = I 2 := by
  rw [jx_frames]
  by_cases c : f < nI 3 ∨ nI 17 < f ∨ ¬ I 5 ≤ 0
  · rw [if_pos c, if_pos c]
    exact ⟨I, rfl, hT, rfl, rfl⟩
  · rw [if_neg c, if_neg c]
    refine ⟨_, rfl, ?_, rfl, rfl⟩
    have c1 : ¬ f < nI 3 := fun h => c (Or.inl h)
    have c2 : ¬ nI 17 < f := fun h => c (Or.inr (Or.inl h))
    have c3 : I 5 ≤ 0 := Classical.byContradiction (fun h => c (Or.inr (Or.inr h)))
    have c0 : ¬ f < 0 := fun h => c1 (Int32.lt_trans h (show (0 : Int32) < nI 3 by decide))
    obtain ⟨k, hk, rfl⟩ := nI_of c0
    rw [nI_ltI hk (by decide)] at c1
    rw [nI_ltI (by decide) hk] at c2
    obtain ⟨n, J, F, S, E, q, w, hX⟩ := js_T_X hT
    have hJ0 : J = 0 := by
      have h4 := hX.2.1.2.2.2.1
      have hJ := hX.2.1.2.2.2.2.1
      rw [h4] at c3
      apply Classical.byContradiction
      intro hn
      exact nI_nle (by omega) (by omega) c3
    subst hJ0
    obtain ⟨hF, hS, hq, hw, _⟩ := js_no hX
    obtain ⟨hB, ⟨h1, h2, h3, h4, h5, h6, h7, h8, h9, h10, h11, h12, h13, h14, h15⟩, hP, hW⟩ := hX
    exact js_X_T (n := k) (J := 0) (F := F) (S := S) (E := E) (q := q) (w := w) ⟨jr_bI hB (fun b hb => by cases hb; exact jr_nb (lo := 3) (hi := 17) (by omega) (by omega) (by decide)), ⟨rfl, by omega, by omega, h4, h5, h6, h7, h8, h9, h10, h11, h12, h13, h14, h15⟩, ⟨fun f k e => (by rw [hF f] at e; cases e), hP.2⟩, hW⟩
theorem js_isJ {j : Int32} (hJ : J ≤ 12) (h : jq_isJob J j = true) : ∃ p, p < J ∧ j = nI p := by
  unfold jq_isJob at h
  rw [decide_eq_true_eq] at h
  obtain ⟨p, hp, rfl⟩ := nI_of h.1
  exact ⟨p, (nI_ltI hp (by omega)).mp h.2, rfl⟩
theorem js_isJob {j : Int32} (hT : js_T I A) : (jv_run (d + 1) 48 [.ref m, .int j] (jm_H m I A L rest z) = some (some (.int (nI 0)), jm_H m I A L rest z)) ∨ ∃ p, p < 12 ∧ j = nI p ∧ jv_run (d + 1) 48 [.ref m, .int j] (jm_H m I A L rest z) = some (some (.int (nI 1)), jm_H m I A L rest z) := by
  obtain ⟨n, J, F, S, E, q, w, hX⟩ := js_T_X hT
  have hJ := hX.2.1.2.2.2.2.1
  have h := jx_isJob (d := d) (m := m) (A := A) (L := L) (rest := rest) (z := z) (j := j) hX.2.1.2.2.2.1
  cases c : jq_isJob J j with
  | false => rw [c] at h; exact Or.inl h
  | true =>
    rw [c] at h
    obtain ⟨p, hp, e⟩ := js_isJ hJ c
    exact Or.inr ⟨p, by omega, e, h⟩
theorem js_ended {j : Int32} (hT : js_T I A) : ∃ x, jv_run (d + 2) 49 [.ref m, .int j] (jm_H m I A L rest z) = some (some (.int x), jm_H m I A L rest z) := by
  have z0 : nI 0 = 0 := by decide
  have z1 : ¬ nI 1 = 0 := by decide
  rw [N49]
  rcases js_isJob (d := d) (m := m) (L := L) (rest := rest) (z := z) (j := j) hT with h | ⟨p, hp, rfl, h⟩
  · refine ⟨-1, ?_⟩
    simp (disch := first | omega | exact id rfl | exact jd_i | exact jd_r | exact jd_n | exact jd_f | decide | (simp (disch := omega) only [h, Option.isSome_some])) only [h, Option.isSome_some, Option.getD_some, Option.toList_some, Option.toList_none, List.cons_append, List.nil_append, E49_0, E49_1, E49_2, E49_5, E49_8, E49_9, E49_12, E49_13, E49_14, E49_17, E49_18, if_pos z0]
  · refine ⟨A 8 p, ?_⟩
    simp (disch := first | omega | exact id rfl | exact jd_i | exact jd_r | exact jd_n | exact jd_f | decide | (simp (disch := omega) only [h, Option.isSome_some])) only [h, Option.isSome_some, Option.getD_some, Option.toList_some, Option.toList_none, List.cons_append, List.nil_append, E49_0, E49_1, E49_2, E49_5, E49_8, E49_9, E49_12, E49_13, E49_14, E49_17, E49_18, if_neg z1]
theorem js_done {j : Int32} (hT : js_T I A) : ∃ x, jv_run (d + 2) 50 [.ref m, .int j] (jm_H m I A L rest z) = some (some (.int x), jm_H m I A L rest z) := by
  have z0 : nI 0 = 0 := by decide
  have z1 : ¬ nI 1 = 0 := by decide
  rw [N50]
  rcases js_isJob (d := d) (m := m) (L := L) (rest := rest) (z := z) (j := j) hT with h | ⟨p, hp, rfl, h⟩
  · refine ⟨-1, ?_⟩
    simp (disch := first | omega | exact id rfl | exact jd_i | exact jd_r | exact jd_n | exact jd_f | decide | (simp (disch := omega) only [h, Option.isSome_some])) only [h, Option.isSome_some, Option.getD_some, Option.toList_some, Option.toList_none, List.cons_append, List.nil_append, E50_0, E50_1, E50_2, E50_5, E50_8, E50_9, E50_12, E50_13, E50_14, E50_17, E50_18, if_pos z0]
  · refine ⟨A 7 p, ?_⟩
    simp (disch := first | omega | exact id rfl | exact jd_i | exact jd_r | exact jd_n | exact jd_f | decide | (simp (disch := omega) only [h, Option.isSome_some])) only [h, Option.isSome_some, Option.getD_some, Option.toList_some, Option.toList_none, List.cons_append, List.nil_append, E50_0, E50_1, E50_2, E50_5, E50_8, E50_9, E50_12, E50_13, E50_14, E50_17, E50_18, if_neg z1]
theorem js_printed {j : Int32} (hT : js_T I A) : ∃ x, jv_run (d + 2) 51 [.ref m, .int j] (jm_H m I A L rest z) = some (some (.int x), jm_H m I A L rest z) := by
  have z0 : nI 0 = 0 := by decide
  have z1 : ¬ nI 1 = 0 := by decide
  rw [N51]
  rcases js_isJob (d := d) (m := m) (L := L) (rest := rest) (z := z) (j := j) hT with h | ⟨p, hp, rfl, h⟩
  · refine ⟨-1, ?_⟩
    simp (disch := first | omega | exact id rfl | exact jd_i | exact jd_r | exact jd_n | exact jd_f | decide | (simp (disch := omega) only [h, Option.isSome_some])) only [h, Option.isSome_some, Option.getD_some, Option.toList_some, Option.toList_none, List.cons_append, List.nil_append, E51_0, E51_1, E51_2, E51_5, E51_8, E51_9, E51_12, E51_13, E51_14, E51_17, E51_18, if_pos z0]
  · refine ⟨A 17 p, ?_⟩
    simp (disch := first | omega | exact id rfl | exact jd_i | exact jd_r | exact jd_n | exact jd_f | decide | (simp (disch := omega) only [h, Option.isSome_some])) only [h, Option.isSome_some, Option.getD_some, Option.toList_some, Option.toList_none, List.cons_append, List.nil_append, E51_0, E51_1, E51_2, E51_5, E51_8, E51_9, E51_12, E51_13, E51_14, E51_17, E51_18, if_neg z1]
theorem js_out {j i : Int32} (hT : js_T I A) : ∃ x, jv_run (d + 2) 52 [.ref m, .int j, .int i] (jm_H m I A L rest z) = some (some (.int x), jm_H m I A L rest z) := by
  have z0 : nI 0 = 0 := by decide
  have z1 : ¬ nI 1 = 0 := by decide
  rw [N52]
  rcases js_isJob (d := d) (m := m) (L := L) (rest := rest) (z := z) (j := j) hT with h | ⟨p, hp, rfl, h⟩
  · refine ⟨-1, ?_⟩
    simp (disch := first | omega | exact id rfl | exact jd_i | exact jd_r | exact jd_n | exact jd_f | decide | (simp (disch := omega) only [h, Option.isSome_some])) only [h, Option.isSome_some, Option.getD_some, Option.toList_some, Option.toList_none, List.cons_append, List.nil_append, E52_0, E52_1, E52_2, E52_5, E52_8, E52_9, E52_12, E52_13, E52_14, E52_17, E52_18, E52_19, E52_22, E52_23, E52_26, E52_29, E52_30, E52_31, E52_32, E52_33, E52_34, E52_37, E52_38, if_pos z0]
  · by_cases c1 : i < 0
    · refine ⟨-1, ?_⟩
      simp (disch := first | omega | exact id rfl | exact jd_i | exact jd_r | exact jd_n | exact jd_f | decide | (simp (disch := omega) only [h, Option.isSome_some])) only [h, Option.isSome_some, Option.getD_some, Option.toList_some, Option.toList_none, List.cons_append, List.nil_append, E52_0, E52_1, E52_2, E52_5, E52_8, E52_9, E52_12, E52_13, E52_14, E52_17, E52_18, E52_19, E52_22, E52_23, E52_26, E52_29, E52_30, E52_31, E52_32, E52_33, E52_34, E52_37, E52_38, if_neg z1, if_pos c1]
    · by_cases c2 : A 17 p ≤ i
      · refine ⟨-1, ?_⟩
        simp (disch := first | omega | exact id rfl | exact jd_i | exact jd_r | exact jd_n | exact jd_f | decide | (simp (disch := omega) only [h, Option.isSome_some])) only [h, Option.isSome_some, Option.getD_some, Option.toList_some, Option.toList_none, List.cons_append, List.nil_append, E52_0, E52_1, E52_2, E52_5, E52_8, E52_9, E52_12, E52_13, E52_14, E52_17, E52_18, E52_19, E52_22, E52_23, E52_26, E52_29, E52_30, E52_31, E52_32, E52_33, E52_34, E52_37, E52_38, if_neg z1, if_neg c1, if_pos c2]
      · obtain ⟨k, hk, rfl⟩ := nI_of c1
        obtain ⟨v, hv, e⟩ := jr_nat (n := 400) (hT.1.2 17 _ rfl p)
        have hkv : k < 400 := by
          rw [e, nI_leI (by omega) hk] at c2
          omega
        refine ⟨A 16 (400 * p + k), ?_⟩
        simp (disch := first | omega | exact id rfl | exact jd_i | exact jd_r | exact jd_n | exact jd_f | decide | (simp (disch := omega) only [h, Option.isSome_some])) only [h, Option.isSome_some, Option.getD_some, Option.toList_some, Option.toList_none, List.cons_append, List.nil_append, E52_0, E52_1, E52_2, E52_5, E52_8, E52_9, E52_12, E52_13, E52_14, E52_17, E52_18, E52_19, E52_22, E52_23, E52_26, E52_29, E52_30, E52_31, E52_32, E52_33, E52_34, E52_37, E52_38, if_neg z1, if_neg c1, if_neg c2, pk_mul, nI_add]
theorem js_register {j i : Int32} (hT : js_T I A) : ∃ x, jv_run (d + 2) 53 [.ref m, .int j, .int i] (jm_H m I A L rest z) = some (some (.long x), jm_H m I A L rest z) := by
  have z0 : nI 0 = 0 := by decide
  have z1 : ¬ nI 1 = 0 := by decide
  rw [N53]
  rcases js_isJob (d := d) (m := m) (L := L) (rest := rest) (z := z) (j := j) hT with h | ⟨p, hp, rfl, h⟩
  · refine ⟨0, ?_⟩
    simp (disch := first | omega | exact id rfl | exact jd_i | exact jd_r | exact jd_n | exact jd_f | decide | (simp (disch := omega) only [h, Option.isSome_some])) only [h, Option.isSome_some, Option.getD_some, Option.toList_some, Option.toList_none, List.cons_append, List.nil_append, E53_0, E53_1, E53_2, E53_5, E53_8, E53_9, E53_10, E53_13, E53_14, E53_17, E53_20, E53_21, E53_22, E53_23, E53_26, E53_27, E53_30, E53_31, E53_32, E53_35, E53_36, E53_39, E53_42, E53_43, E53_46, E53_47, E53_48, E53_49, E53_52, E53_53, E53_56, E53_59, E53_60, E53_61, E53_62, E53_63, E53_64, E53_65, if_pos z0]
  · by_cases c1 : i < -1
    · refine ⟨0, ?_⟩
      simp (disch := first | omega | exact id rfl | exact jd_i | exact jd_r | exact jd_n | exact jd_f | decide | (simp (disch := omega) only [h, Option.isSome_some])) only [h, Option.isSome_some, Option.getD_some, Option.toList_some, Option.toList_none, List.cons_append, List.nil_append, E53_0, E53_1, E53_2, E53_5, E53_8, E53_9, E53_10, E53_13, E53_14, E53_17, E53_20, E53_21, E53_22, E53_23, E53_26, E53_27, E53_30, E53_31, E53_32, E53_35, E53_36, E53_39, E53_42, E53_43, E53_46, E53_47, E53_48, E53_49, E53_52, E53_53, E53_56, E53_59, E53_60, E53_61, E53_62, E53_63, E53_64, E53_65, if_neg z1, if_pos c1]
    · by_cases c2 : i ≤ nI 128
      · by_cases c3 : 0 ≤ i
        · obtain ⟨k, hk, rfl⟩ := nI_of (Int32.not_lt.mpr c3)
          rw [nI_leI hk (by decide)] at c2
          by_cases c4 : k = 128
          · subst c4
            refine ⟨(A 9 p).toInt64, ?_⟩
            simp (disch := first | omega | exact id rfl | exact jd_i | exact jd_r | exact jd_n | exact jd_f | decide | (simp (disch := omega) only [h, Option.isSome_some])) only [h, Option.isSome_some, Option.getD_some, Option.toList_some, Option.toList_none, List.cons_append, List.nil_append, E53_0, E53_1, E53_2, E53_5, E53_8, E53_9, E53_10, E53_13, E53_14, E53_17, E53_20, E53_21, E53_22, E53_23, E53_26, E53_27, E53_30, E53_31, E53_32, E53_35, E53_36, E53_39, E53_42, E53_43, E53_46, E53_47, E53_48, E53_49, E53_52, E53_53, E53_56, E53_59, E53_60, E53_61, E53_62, E53_63, E53_64, E53_65, if_neg z1, if_neg c1, nI_leI, if_pos (Nat.le_refl 128), if_pos c3, not_true_eq_false, if_false]
          · refine ⟨(A 11 (128 * p + k)).toInt64, ?_⟩
            simp (disch := first | omega | exact id rfl | exact jd_i | exact jd_r | exact jd_n | exact jd_f | decide | (simp (disch := omega) only [h, Option.isSome_some])) only [h, Option.isSome_some, Option.getD_some, Option.toList_some, Option.toList_none, List.cons_append, List.nil_append, E53_0, E53_1, E53_2, E53_5, E53_8, E53_9, E53_10, E53_13, E53_14, E53_17, E53_20, E53_21, E53_22, E53_23, E53_26, E53_27, E53_30, E53_31, E53_32, E53_35, E53_36, E53_39, E53_42, E53_43, E53_46, E53_47, E53_48, E53_49, E53_52, E53_53, E53_56, E53_59, E53_60, E53_61, E53_62, E53_63, E53_64, E53_65, if_neg z1, if_neg c1, nI_leI, if_pos c2, if_pos c3, nI_eq, c4, not_false_eq_true, if_true, pk_mul, nI_add]
        · refine ⟨L 10 p, ?_⟩
          simp (disch := first | omega | exact id rfl | exact jd_i | exact jd_r | exact jd_n | exact jd_f | decide | (simp (disch := omega) only [h, Option.isSome_some])) only [h, Option.isSome_some, Option.getD_some, Option.toList_some, Option.toList_none, List.cons_append, List.nil_append, E53_0, E53_1, E53_2, E53_5, E53_8, E53_9, E53_10, E53_13, E53_14, E53_17, E53_20, E53_21, E53_22, E53_23, E53_26, E53_27, E53_30, E53_31, E53_32, E53_35, E53_36, E53_39, E53_42, E53_43, E53_46, E53_47, E53_48, E53_49, E53_52, E53_53, E53_56, E53_59, E53_60, E53_61, E53_62, E53_63, E53_64, E53_65, if_neg z1, if_neg c1, if_pos c2, if_neg c3]
      · refine ⟨0, ?_⟩
        simp (disch := first | omega | exact id rfl | exact jd_i | exact jd_r | exact jd_n | exact jd_f | decide | (simp (disch := omega) only [h, Option.isSome_some])) only [h, Option.isSome_some, Option.getD_some, Option.toList_some, Option.toList_none, List.cons_append, List.nil_append, E53_0, E53_1, E53_2, E53_5, E53_8, E53_9, E53_10, E53_13, E53_14, E53_17, E53_20, E53_21, E53_22, E53_23, E53_26, E53_27, E53_30, E53_31, E53_32, E53_35, E53_36, E53_39, E53_42, E53_43, E53_46, E53_47, E53_48, E53_49, E53_52, E53_53, E53_56, E53_59, E53_60, E53_61, E53_62, E53_63, E53_64, E53_65, if_neg z1, if_neg c1, if_neg c2]
theorem js_word {j a : Int32} (hT : js_T I A) : ∃ x, jv_run (d + 2) 54 [.ref m, .int j, .int a] (jm_H m I A L rest z) = some (some (.long x), jm_H m I A L rest z) := by
  have z0 : nI 0 = 0 := by decide
  have z1 : ¬ nI 1 = 0 := by decide
  have ia := jx_isAddress (d := d) (a := a) (h := jm_H m I A L rest z)
  rw [N54]
  rcases js_isJob (d := d) (m := m) (L := L) (rest := rest) (z := z) (j := j) hT with h | ⟨p, hp, rfl, h⟩
  · refine ⟨0, ?_⟩
    simp (disch := first | omega | exact id rfl | exact jd_i | exact jd_r | exact jd_n | exact jd_f | decide | (simp (disch := omega) only [h, Option.isSome_some])) only [h, Option.isSome_some, Option.getD_some, Option.toList_some, Option.toList_none, List.cons_append, List.nil_append, E54_0, E54_1, E54_2, E54_5, E54_8, E54_9, E54_12, E54_13, E54_14, E54_17, E54_18, E54_21, E54_24, E54_25, E54_28, E54_31, E54_32, E54_33, E54_34, E54_35, E54_36, E54_39, E54_40, if_pos z0]
  · by_cases c1 : A 8 p = 0
    · have c1' : ¬ ¬ A 8 p = 0 := fun h => h c1
      by_cases c2 : ¬ a < 0 ∧ ¬ nI 1024 ≤ a
      · rw [decide_eq_true c2] at ia
        have b1 : ¬ jq_b true = 0 := by decide
        obtain ⟨k, hk, rfl⟩ := nI_of c2.1
        have hk2 : k < 1024 := by
          have := c2.2
          rw [nI_leI (by decide) hk] at this
          omega
        refine ⟨L 12 (1024 * p + k), ?_⟩
        simp (disch := first | omega | exact id rfl | exact jd_i | exact jd_r | exact jd_n | exact jd_f | decide | (simp (disch := omega) only [h, ia, Option.isSome_some])) only [h, ia, Option.isSome_some, Option.getD_some, Option.toList_some, Option.toList_none, List.cons_append, List.nil_append, E54_0, E54_1, E54_2, E54_5, E54_8, E54_9, E54_12, E54_13, E54_14, E54_17, E54_18, E54_21, E54_24, E54_25, E54_28, E54_31, E54_32, E54_33, E54_34, E54_35, E54_36, E54_39, E54_40, if_neg z1, if_neg c1', if_neg b1, pk_mul, nI_add]
      · rw [decide_eq_false c2] at ia
        have b1 : jq_b false = 0 := by decide
        refine ⟨0, ?_⟩
        simp (disch := first | omega | exact id rfl | exact jd_i | exact jd_r | exact jd_n | exact jd_f | decide | (simp (disch := omega) only [h, ia, Option.isSome_some])) only [h, ia, Option.isSome_some, Option.getD_some, Option.toList_some, Option.toList_none, List.cons_append, List.nil_append, E54_0, E54_1, E54_2, E54_5, E54_8, E54_9, E54_12, E54_13, E54_14, E54_17, E54_18, E54_21, E54_24, E54_25, E54_28, E54_31, E54_32, E54_33, E54_34, E54_35, E54_36, E54_39, E54_40, if_neg z1, if_neg c1', if_pos b1]
    · refine ⟨0, ?_⟩
      simp (disch := first | omega | exact id rfl | exact jd_i | exact jd_r | exact jd_n | exact jd_f | decide | (simp (disch := omega) only [h, Option.isSome_some])) only [h, Option.isSome_some, Option.getD_some, Option.toList_some, Option.toList_none, List.cons_append, List.nil_append, E54_0, E54_1, E54_2, E54_5, E54_8, E54_9, E54_12, E54_13, E54_14, E54_17, E54_18, E54_21, E54_24, E54_25, E54_28, E54_31, E54_32, E54_33, E54_34, E54_35, E54_36, E54_39, E54_40, if_neg z1, if_pos c1]
theorem js_run0 {y : Int32} (hT : js_T I A) (h5 : I 5 = nI 0) : ∃ x, jv_run (d + 2) 17 [.ref m, .int y] (jm_H m I A L rest z) = some (some (.int x), jm_H m I A L rest z) := by
  have ne := jx_notEnded (d := d) (m := m) (A := A) (L := L) (rest := rest) (z := z) (n := 0) (by omega) h5
  have e0 : nI (jq_cnt (A 8) 0) ≤ 0 := by show nI 0 ≤ 0; decide
  rw [N17]
  by_cases c1 : y < 0
  · refine ⟨-1, ?_⟩
    simp (disch := first | omega | exact id rfl | exact jd_i | exact jd_r | exact jd_n | exact jd_f | decide) only [E17_0, E17_1, E17_4, E17_5, E17_8, E17_11, E17_12, E17_13, E17_14, if_pos c1]
  · by_cases c2 : y ≤ nI 20000
    · refine ⟨nI (jq_cnt (A 8) 0), ?_⟩
      by_cases c3 : y ≤ nI 0
      · simp (disch := first | omega | exact id rfl | exact jd_i | exact jd_r | exact jd_n | exact jd_f | decide | (simp (disch := omega) only [ne, Option.isSome_some])) only [ne, Option.isSome_some, Option.getD_some, Option.toList_some, Option.toList_none, List.cons_append, List.nil_append, E17_0, E17_1, E17_4, E17_5, E17_8, E17_11, E17_12, E17_13, E17_14, E17_15, E17_16, E17_17, E17_20, E17_21, E17_24, E17_27, E17_28, E17_31, E17_34, E17_37, E17_38, E17_41, if_neg c1, if_pos c2, if_pos c3]
      · simp (disch := first | omega | exact id rfl | exact jd_i | exact jd_r | exact jd_n | exact jd_f | decide | (simp (disch := omega) only [ne, Option.isSome_some])) only [ne, Option.isSome_some, Option.getD_some, Option.toList_some, Option.toList_none, List.cons_append, List.nil_append, E17_0, E17_1, E17_4, E17_5, E17_8, E17_11, E17_12, E17_13, E17_14, E17_15, E17_16, E17_17, E17_20, E17_21, E17_24, E17_27, E17_28, E17_31, E17_34, E17_37, E17_38, E17_41, if_neg c1, if_pos c2, if_neg c3, if_pos e0]
    · refine ⟨-1, ?_⟩
      simp (disch := first | omega | exact id rfl | exact jd_i | exact jd_r | exact jd_n | exact jd_f | decide) only [E17_0, E17_1, E17_4, E17_5, E17_8, E17_11, E17_12, E17_13, E17_14, if_neg c1, if_neg c2]
end JS2
