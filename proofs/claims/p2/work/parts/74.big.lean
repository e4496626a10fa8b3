/-! finish, next, choose -/
section JL4
variable {d m : Nat} {I : Nat → Int32} {A : Nat → Nat → Int32} {L : Nat → Nat → Int64} {rest : Nat → Option jv_C} {z : Nat × Nat} {call : jv_F}
def jq_fin (I : Nat → Int32) (A : Nat → Nat → Int32) (f k s : Nat) : (Nat → Int32) × (Nat → Nat → Int32) :=
  if I 32 = nI 2 then
    if A 8 (k / 64) = 0 then (upd I 32 (nI 0), jq_leave A f)
    else (upd (upd I 22 (I 22 - nI 1)) 32 (nI 0), va_up (va_up (jq_leave A f) 28 (upd (jq_leave A f 28) s (-1))) 20 (upd (jq_leave A f 20) k (nI 0)))
  else (upd I 32 (nI 0), va_up (va_up (va_up (va_up A 26 (upd (A 26) f (nI 0))) 27 (upd (A 27) f (nI 0))) 24 (upd (A 24) f (nI 0))) 25 (upd (A 25) f (if 0 ≤ A 21 k then I 42 - A 21 k else nI 0)))
theorem jx_finish {f k s : Nat} (hf : f < 17) (hk : k < 768) (hs : s < 64) (h33 : I 33 = nI f) (h34 : I 34 = nI s) (hF : A 23 f = nI k) : jv_run (d + 2) 21 [.ref m] (jm_H m I A L rest z) = some (none, jm_H m (jq_fin I A f k s).1 (jq_fin I A f k s).2 L rest z) := by
  have hj : k / 64 < 12 := by omega
  have e1 : nI k / nI 64 = nI (k / 64) := pk_div (by omega) (by decide) (by decide)
  rw [N21]
  simp (disch := first | omega | exact id rfl | exact jd_i | exact jd_r | exact jd_n | exact jd_f | decide | (simp (disch := omega) only [jx_leave hf, jx_vanish hk, Option.isSome_some])) only [jx_leave hf, jx_vanish hk, Option.isSome_some, Option.getD_some, Option.toList_some, Option.toList_none, List.cons_append, List.nil_append, E21_0, E21_1, E21_4, E21_5, E21_8, E21_9, E21_10, E21_11, E21_14, E21_15, E21_18, E21_19, E21_20, E21_23, E21_26, E21_27, E21_30, E21_31, E21_33, E21_34, E21_35, E21_38, E21_39, E21_42, E21_43, E21_46, E21_47, E21_48, E21_49, E21_50, E21_53, E21_56, E21_57, E21_60, E21_61, E21_64, E21_65, E21_66, E21_67, E21_70, E21_71, E21_74, E21_75, E21_76, E21_77, E21_80, E21_81, E21_84, E21_85, E21_86, E21_87, E21_90, E21_91, E21_94, E21_95, E21_98, E21_99, E21_100, E21_103, E21_104, E21_107, E21_108, E21_111, E21_112, E21_115, E21_116, E21_117, E21_118, E21_119, E21_120, E21_121, E21_124, h33, h34, hF, e1, ite_not]
  unfold jq_fin
  by_cases h1 : I 32 = nI 2
  · rw [if_pos h1, if_pos h1]
    by_cases h2 : A 8 (k / 64) = 0
    · rw [if_pos h2, if_pos (show jq_leave A f 8 (k / 64) = 0 from h2)]
    · rw [if_neg h2, if_neg (show ¬ jq_leave A f 8 (k / 64) = 0 from h2)]
      rfl
  · rw [if_neg h1, if_neg h1]
    simp (disch := first | omega | exact id rfl | exact jd_i | exact jd_r | exact jd_n | exact jd_f | decide) only [pk_us, pk_un, va_up_self, va_up_ne]
    by_cases h3 : 0 ≤ A 21 k
    · rw [if_pos h3, if_pos h3]
    · rw [if_neg h3, if_neg h3]
/-- the first of t places from i on with p -/
def jq_fp (p : Nat → Bool) : Nat → Nat → Option Nat
  | _, 0 => none
  | i, t + 1 => if p i then some i else jq_fp p (i + 1) t
/-- of t places from i on with p the one of the greatest v, the first of alike ones; b: the best so far -/
def jq_mx (p : Nat → Bool) (v : Nat → Int32) : Nat → Nat → Option Nat → Option Nat
  | _, 0, b => b
  | i, t + 1, b => jq_mx p v (i + 1) t (if p i && (match b with | none => true | some q => decide (¬ v i ≤ v q)) then some i else b)
def jq_c1 (A : Nat → Nat → Int32) (n : Nat) (FR : Nat → Option Nat) (f : Nat) : Bool := jq_go A n FR f && decide (¬ A 24 f ≤ A 25 f + nI 1)
def jq_c2 (A : Nat → Nat → Int32) (n : Nat) (FR : Nat → Option Nat) (f : Nat) : Bool := jq_go A n FR f && decide (¬ A 24 f ≤ 0)
def jq_or (a b : Option Nat) : Option Nat := match a with
  | some q => some q
  | none => b
def jq_vic (A : Nat → Nat → Int32) (n : Nat) (FR : Nat → Option Nat) : Option Nat :=
  jq_or (jq_fp (jq_c1 A n FR) 0 n) (jq_or (jq_mx (jq_c2 A n FR) (fun f => A 25 f - A 24 f) 0 n none) (jq_mx (jq_go A n FR) (A 25) 0 n none))
def jq_chs (I : Nat → Int32) (A : Nat → Nat → Int32) (FR : Nat → Option Nat) (c : Nat) (b : Option Nat) : (Nat → Int32) × (Nat → Nat → Int32) := match b with
  | none => (I, A)
  | some f => match FR f with
    | none => (I, A)
    | some k => (upd I 31 (nI (c + 1)), jq_ask (va_up A 21 (upd (A 21) k (I 42))) c (nI 2) f)
theorem jq_mx_s {p : Nat → Bool} {v : Nat → Int32} {i t : Nat} {b : Option Nat} : jq_mx p v i (t + 1) b = jq_mx p v (i + 1) t (if p i && (match b with | none => true | some q => decide (¬ v i ≤ v q)) then some i else b) := rfl
theorem jq_fp_s {p : Nat → Bool} {i t : Nat} : jq_fp p i (t + 1) = if p i then some i else jq_fp p (i + 1) t := rfl
theorem jq_fp_some {p : Nat → Bool} : ∀ {t i q : Nat}, jq_fp p i t = some q → i ≤ q ∧ q < i + t ∧ p q = true
  | 0, i, q, h => by cases h
  | t + 1, i, q, h => by
    unfold jq_fp at h
    split at h
    · rename_i hk
      cases h
      exact ⟨Nat.le_refl _, by omega, hk⟩
    · obtain ⟨h1, h2, h3⟩ := jq_fp_some h
      exact ⟨by omega, by omega, h3⟩
theorem jq_mx_ok {p : Nat → Bool} {v : Nat → Int32} (P : Nat → Prop) : ∀ {t i : Nat} {b : Option Nat} {q : Nat}, (∀ q, b = some q → P q) → (∀ q, i ≤ q → q < i + t → p q = true → P q) → jq_mx p v i t b = some q → P q
  | 0, i, b, q, hb, hp, h => hb q h
  | t + 1, i, b, q, hb, hp, h => by
    unfold jq_mx at h
    refine jq_mx_ok P ?_ (fun q h1 h2 h3 => hp q (by omega) (by omega) h3) h
    intro q' hq'
    cases hpi : p i
    · rw [hpi, Bool.false_and, if_neg (by decide)] at hq'
      exact hb q' hq'
    · rw [hpi, Bool.true_and] at hq'
      generalize (match b with | none => true | some q => decide (¬ v i ≤ v q)) = x at hq'
      cases x
      · rw [if_neg (by decide)] at hq'
        exact hb q' hq'
      · rw [if_pos rfl] at hq'
        cases hq'
        exact hp _ (Nat.le_refl _) (by omega) hpi
theorem jx_choose {n c : Nat} {FR : Nat → Option Nat} (hn : 1 ≤ n ∧ n ≤ 17) (hI : I 0 = nI n) (hc : c < 18) (hI31 : I 31 = nI c) (hF : ∀ f, f < n → A 23 f = jq_o (FR f) ∧ ∀ k, FR f = some k → k < 768) : jv_run (d + 4) 24 [.ref m] (jm_H m I A L rest z) = some (none, jm_H m (jq_chs I A FR c (jq_vic A n FR)).1 (jq_chs I A FR c (jq_vic A n FR)).2 L rest z) := by
  have hgo : ∀ f, f < n → jv_run (d + 3) 23 [.ref m, .int (nI f)] (jm_H m I A L rest z) = some (some (.int (jq_b (jq_go A n FR f))), jm_H m I A L rest z) := fun f hf => jx_mayGo (by omega) (hF f hf).1 (hF f hf).2 hn hI
  have hgk : ∀ f, f < n → jq_go A n FR f = true → ∃ k, FR f = some k := fun f hf h => by
    unfold jq_go at h
    cases h1 : FR f with
    | none => rw [h1] at h; cases h
    | some k => exact ⟨k, rfl⟩
  -- the end
  have l170 : ∀ (x : Int32) (b : Option Nat), (∀ q, b = some q → q < n ∧ ∃ k, FR q = some k) → jv_ev (jv_run (d + 3)) 24 170 [some (.ref m), some (.int (jq_o b)), some (.int x)] [] (jm_H m I A L rest z) = some (none, jm_H m (jq_chs I A FR c b).1 (jq_chs I A FR c b).2 L rest z) := by
    intro x b hb
    cases b with
    | none =>
      simp (disch := first | omega | exact id rfl | exact jd_i | exact jd_r | exact jd_n | exact jd_f | decide) only [E24_170, E24_171, if_neg (show ¬ 0 ≤ jq_o none by decide), E24_174]
      rfl
    | some q =>
      obtain ⟨hq, k, hk⟩ := hb q rfl
      have h1 := (hF q hq).1
      have hk2 := (hF q hq).2 k hk
      rw [hk] at h1
      have h2 : A 23 q = nI k := h1
      have h3 : jq_o (some q) = nI q := rfl
      rw [h3]
      have h4 := jx_ask (d := d + 2) (m := m) (I := I) (A := va_up A 21 (upd (A 21) k (I 42))) (L := L) (rest := rest) (z := z) (what := nI 2) (show q < 17 by omega) hc hI31
      simp (disch := first | omega | exact id rfl | exact jd_i | exact jd_r | exact jd_n | exact jd_f | decide | (simp (disch := omega) only [h4, Option.isSome_some])) only [h4, Option.isSome_some, Option.getD_some, Option.toList_some, Option.toList_none, List.cons_append, List.nil_append, E24_0, E24_1, E24_2, E24_3, E24_5, E24_6, E24_9, E24_12, E24_13, E24_16, E24_17, E24_18, E24_21, E24_24, E24_25, E24_28, E24_29, E24_30, E24_31, E24_34, E24_35, E24_36, E24_37, E24_38, E24_41, E24_42, E24_43, E24_46, E24_49, E24_50, E24_53, E24_54, E24_56, E24_57, E24_60, E24_63, E24_64, E24_65, E24_68, E24_71, E24_72, E24_75, E24_76, E24_77, E24_80, E24_81, E24_84, E24_85, E24_88, E24_89, E24_90, E24_91, E24_94, E24_95, E24_96, E24_97, E24_98, E24_101, E24_102, E24_103, E24_104, E24_107, E24_108, E24_109, E24_110, E24_113, E24_114, E24_115, E24_118, E24_121, E24_122, E24_125, E24_126, E24_128, E24_129, E24_132, E24_135, E24_136, E24_137, E24_140, E24_143, E24_144, E24_147, E24_148, E24_151, E24_152, E24_153, E24_154, E24_157, E24_158, E24_159, E24_162, E24_163, E24_164, E24_167, E24_170, E24_171, E24_174, E24_175, E24_176, E24_179, E24_180, E24_183, E24_184, E24_185, E24_186, E24_189, E24_190, E24_191, E24_192, E24_193, E24_196, if_pos (nI_pos' (show q < 2 ^ 31 by omega)), h2]
      simp only [jq_chs, hk]
  -- the third loop
  have l127 : ∀ (t i : Nat) (b : Option Nat), i + t = n → (∀ q, b = some q → q < n ∧ ∃ k, FR q = some k) → jv_ev (jv_run (d + 3)) 24 127 [some (.ref m), some (.int (jq_o b)), some (.int (nI i))] [] (jm_H m I A L rest z) = some (none, jm_H m (jq_chs I A FR c (jq_mx (jq_go A n FR) (A 25) i t b)).1 (jq_chs I A FR c (jq_mx (jq_go A n FR) (A 25) i t b)).2 L rest z) := by
    intro t
    induction t with
    | zero =>
      intro i b hi hb
      rw [E24_127]
      simp (disch := first | omega | exact id rfl | exact jd_i | exact jd_r | exact jd_n | exact jd_f | decide) only [E24_128, E24_129, E24_132, hI, nI_leI, if_pos (show n ≤ i by omega), l170 _ b hb]
      rfl
    | succ t ih =>
      intro i b hi hb
      have hi2 : i < n := by omega
      rw [E24_127]
      simp (disch := first | omega | exact id rfl | exact jd_i | exact jd_r | exact jd_n | exact jd_f | decide | (simp (disch := omega) only [hgo i hi2, Option.isSome_some])) only [hgo i hi2, Option.isSome_some, Option.getD_some, Option.toList_some, Option.toList_none, List.cons_append, List.nil_append, E24_128, E24_129, E24_132, E24_135, E24_136, E24_137, E24_140, E24_143, E24_144, hI, nI_leI, if_neg (show ¬ n ≤ i by omega), jq_b0, ite_not]
      simp only [jq_mx_s]
      cases h1 : jq_go A n FR i
      · rw [if_pos rfl]
        simp (disch := first | omega | exact id rfl | exact jd_i | exact jd_r | exact jd_n | exact jd_f | decide) only [E24_164, E24_167, nI_add]
        exact ih (i + 1) b (by omega) hb
      · rw [if_neg (by decide)]
        have hnew : ∀ q, some i = some q → q < n ∧ ∃ k, FR q = some k := fun q hq => by cases hq; exact ⟨hi2, hgk i hi2 h1⟩
        cases b with
        | none =>
          rw [if_pos (show jq_o none < 0 by decide)]
          simp (disch := first | omega | exact id rfl | exact jd_i | exact jd_r | exact jd_n | exact jd_f | decide) only [E24_162, E24_163, E24_164, E24_167, nI_add]
          exact ih (i + 1) (some i) (by omega) hnew
        | some q =>
          have hq := (hb q rfl).1
          have h3 : jq_o (some q) = nI q := rfl
          rw [h3, if_neg (nI_pos (show q < 2 ^ 31 by omega))]
          simp (disch := first | omega | exact id rfl | exact jd_i | exact jd_r | exact jd_n | exact jd_f | decide) only [E24_147, E24_148, E24_151, E24_152, E24_153, E24_154, E24_157, E24_158, E24_159, E24_162, E24_163, E24_164, E24_167, nI_add]
          by_cases h4 : A 25 i ≤ A 25 q
          · rw [if_pos h4]
            simp only [h4, not_true, decide_false, Bool.and_false, Bool.false_eq_true, if_false]
            exact ih (i + 1) (some q) (by omega) hb
          · rw [if_neg h4]
            simp only [h4, not_false_eq_true, decide_true, Bool.and_self, if_true]
            exact ih (i + 1) (some i) (by omega) hnew
  have l121 : ∀ (x : Int32) (b : Option Nat), (∀ q, b = some q → q < n ∧ ∃ k, FR q = some k) → jv_ev (jv_run (d + 3)) 24 121 [some (.ref m), some (.int (jq_o b)), some (.int x)] [] (jm_H m I A L rest z) = some (none, jm_H m (jq_chs I A FR c (jq_or b (jq_mx (jq_go A n FR) (A 25) 0 n none))).1 (jq_chs I A FR c (jq_or b (jq_mx (jq_go A n FR) (A 25) 0 n none))).2 L rest z) := by
    intro x b hb
    cases b with
    | none =>
      simp (disch := first | omega | exact id rfl | exact jd_i | exact jd_r | exact jd_n | exact jd_f | decide) only [E24_121, E24_122, if_neg (show ¬ 0 ≤ jq_o none by decide), E24_125, E24_126]
      exact l127 n 0 none (Nat.zero_add n) (fun q h => by cases h)
    | some q =>
      have hq := (hb q rfl).1
      simp (disch := first | omega | exact id rfl | exact jd_i | exact jd_r | exact jd_n | exact jd_f | decide) only [E24_121, E24_122, if_pos (show 0 ≤ jq_o (some q) from nI_pos' (show q < 2 ^ 31 by omega))]
      exact l170 x (some q) hb
  -- the second loop
  have l55 : ∀ (t i : Nat) (b : Option Nat), i + t = n → (∀ q, b = some q → q < n ∧ ∃ k, FR q = some k) → jv_ev (jv_run (d + 3)) 24 55 [some (.ref m), some (.int (jq_o b)), some (.int (nI i))] [] (jm_H m I A L rest z) = some (none, jm_H m (jq_chs I A FR c (jq_or (jq_mx (jq_c2 A n FR) (fun f => A 25 f - A 24 f) i t b) (jq_mx (jq_go A n FR) (A 25) 0 n none))).1 (jq_chs I A FR c (jq_or (jq_mx (jq_c2 A n FR) (fun f => A 25 f - A 24 f) i t b) (jq_mx (jq_go A n FR) (A 25) 0 n none))).2 L rest z) := by
    intro t
    induction t with
    | zero =>
      intro i b hi hb
      rw [E24_55]
      simp (disch := first | omega | exact id rfl | exact jd_i | exact jd_r | exact jd_n | exact jd_f | decide) only [E24_56, E24_57, E24_60, hI, nI_leI, if_pos (show n ≤ i by omega), l121 _ b hb]
      rfl
    | succ t ih =>
      intro i b hi hb
      have hi2 : i < n := by omega
      rw [E24_55]
      simp (disch := first | omega | exact id rfl | exact jd_i | exact jd_r | exact jd_n | exact jd_f | decide | (simp (disch := omega) only [hgo i hi2, Option.isSome_some])) only [hgo i hi2, Option.isSome_some, Option.getD_some, Option.toList_some, Option.toList_none, List.cons_append, List.nil_append, E24_56, E24_57, E24_60, E24_63, E24_64, E24_65, E24_68, E24_71, E24_72, E24_75, E24_76, E24_77, E24_80, E24_81, hI, nI_leI, if_neg (show ¬ n ≤ i by omega), jq_b0, ite_not]
      simp only [jq_mx_s]
      cases h1 : jq_go A n FR i
      · rw [if_pos rfl]
        simp (disch := first | omega | exact id rfl | exact jd_i | exact jd_r | exact jd_n | exact jd_f | decide) only [E24_115, E24_118, nI_add]
        simp only [jq_c2, h1, Bool.false_and, Bool.false_eq_true, if_false]
        exact ih (i + 1) b (by omega) hb
      · rw [if_neg (by decide)]
        by_cases h5 : A 24 i ≤ 0
        · rw [if_pos h5]
          simp (disch := first | omega | exact id rfl | exact jd_i | exact jd_r | exact jd_n | exact jd_f | decide) only [E24_115, E24_118, nI_add]
          simp only [jq_c2, h1, h5, not_true, decide_false, Bool.and_false, Bool.false_and, Bool.false_eq_true, if_false]
          exact ih (i + 1) b (by omega) hb
        · rw [if_neg h5]
          have hnew : ∀ q, some i = some q → q < n ∧ ∃ k, FR q = some k := fun q hq => by cases hq; exact ⟨hi2, hgk i hi2 h1⟩
          have hc2 : jq_c2 A n FR i = true := by simp only [jq_c2, h1, h5, not_false_eq_true, decide_true, Bool.and_self]
          rw [hc2]
          cases b with
          | none =>
            rw [if_pos (show jq_o none < 0 by decide)]
            simp (disch := first | omega | exact id rfl | exact jd_i | exact jd_r | exact jd_n | exact jd_f | decide) only [E24_113, E24_114, E24_115, E24_118, nI_add]
            exact ih (i + 1) (some i) (by omega) hnew
          | some q =>
            have hq := (hb q rfl).1
            have h3 : jq_o (some q) = nI q := rfl
            rw [h3, if_neg (nI_pos (show q < 2 ^ 31 by omega))]
            simp (disch := first | omega | exact id rfl | exact jd_i | exact jd_r | exact jd_n | exact jd_f | decide) only [E24_84, E24_85, E24_88, E24_89, E24_90, E24_91, E24_94, E24_95, E24_96, E24_97, E24_98, E24_101, E24_102, E24_103, E24_104, E24_107, E24_108, E24_109, E24_110, E24_113, E24_114, E24_115, E24_118, nI_add]
            by_cases h4 : A 25 i - A 24 i ≤ A 25 q - A 24 q
            · rw [if_pos h4]
              simp only [h4, not_true, decide_false, Bool.and_false, Bool.false_eq_true, if_false]
              exact ih (i + 1) (some q) (by omega) hb
            · rw [if_neg h4]
              simp only [h4, not_false_eq_true, decide_true, Bool.and_self, if_true]
              exact ih (i + 1) (some i) (by omega) hnew
  have l49 : ∀ (x : Int32) (b : Option Nat), (∀ q, b = some q → q < n ∧ ∃ k, FR q = some k) → jv_ev (jv_run (d + 3)) 24 49 [some (.ref m), some (.int (jq_o b)), some (.int x)] [] (jm_H m I A L rest z) = some (none, jm_H m (jq_chs I A FR c (jq_or b (jq_or (jq_mx (jq_c2 A n FR) (fun f => A 25 f - A 24 f) 0 n none) (jq_mx (jq_go A n FR) (A 25) 0 n none)))).1 (jq_chs I A FR c (jq_or b (jq_or (jq_mx (jq_c2 A n FR) (fun f => A 25 f - A 24 f) 0 n none) (jq_mx (jq_go A n FR) (A 25) 0 n none)))).2 L rest z) := by
    intro x b hb
    cases b with
    | none =>
      simp (disch := first | omega | exact id rfl | exact jd_i | exact jd_r | exact jd_n | exact jd_f | decide) only [E24_49, E24_50, if_neg (show ¬ 0 ≤ jq_o none by decide), E24_53, E24_54]
      exact l55 n 0 none (Nat.zero_add n) (fun q h => by cases h)
    | some q =>
      have hq := (hb q rfl).1
      simp (disch := first | omega | exact id rfl | exact jd_i | exact jd_r | exact jd_n | exact jd_f | decide) only [E24_49, E24_50, if_pos (show 0 ≤ jq_o (some q) from nI_pos' (show q < 2 ^ 31 by omega))]
      exact l121 x (some q) hb
  -- the first loop
  have l4 : ∀ (t i : Nat), i + t = n → jv_ev (jv_run (d + 3)) 24 4 [some (.ref m), some (.int (-1)), some (.int (nI i))] [] (jm_H m I A L rest z) = some (none, jm_H m (jq_chs I A FR c (jq_or (jq_fp (jq_c1 A n FR) i t) (jq_or (jq_mx (jq_c2 A n FR) (fun f => A 25 f - A 24 f) 0 n none) (jq_mx (jq_go A n FR) (A 25) 0 n none)))).1 (jq_chs I A FR c (jq_or (jq_fp (jq_c1 A n FR) i t) (jq_or (jq_mx (jq_c2 A n FR) (fun f => A 25 f - A 24 f) 0 n none) (jq_mx (jq_go A n FR) (A 25) 0 n none)))).2 L rest z) := by
    intro t
    induction t with
    | zero =>
      intro i hi
      rw [E24_4]
      simp (disch := first | omega | exact id rfl | exact jd_i | exact jd_r | exact jd_n | exact jd_f | decide) only [E24_5, E24_6, E24_9, hI, nI_leI, if_pos (show n ≤ i by omega)]
      exact l49 (nI i) none (fun q h => by cases h)
    | succ t ih =>
      intro i hi
      have hi2 : i < n := by omega
      rw [E24_4]
      simp (disch := first | omega | exact id rfl | exact jd_i | exact jd_r | exact jd_n | exact jd_f | decide | (simp (disch := omega) only [hgo i hi2, Option.isSome_some])) only [hgo i hi2, Option.isSome_some, Option.getD_some, Option.toList_some, Option.toList_none, List.cons_append, List.nil_append, E24_5, E24_6, E24_9, E24_12, E24_13, E24_16, E24_17, E24_18, E24_21, E24_24, E24_25, E24_28, E24_29, E24_30, E24_31, E24_34, E24_35, E24_36, E24_37, E24_38, hI, nI_leI, if_neg (show ¬ n ≤ i by omega), if_neg (show ¬ (0 : Int32) ≤ -1 by decide), jq_b0, ite_not]
      simp only [jq_fp_s]
      cases h1 : jq_go A n FR i
      · rw [if_pos rfl]
        simp (disch := first | omega | exact id rfl | exact jd_i | exact jd_r | exact jd_n | exact jd_f | decide) only [E24_43, E24_46, nI_add]
        simp only [jq_c1, h1, Bool.false_and, Bool.false_eq_true, if_false]
        exact ih (i + 1) (by omega)
      · rw [if_neg (by decide)]
        by_cases h5 : A 24 i ≤ A 25 i + nI 1
        · rw [if_pos h5]
          simp (disch := first | omega | exact id rfl | exact jd_i | exact jd_r | exact jd_n | exact jd_f | decide) only [E24_43, E24_46, nI_add]
          simp only [jq_c1, h1, h5, not_true, decide_false, Bool.and_false, Bool.false_eq_true, if_false]
          exact ih (i + 1) (by omega)
        · rw [if_neg h5]
          have hc1 : jq_c1 A n FR i = true := by simp only [jq_c1, h1, h5, not_false_eq_true, decide_true, Bool.and_self]
          rw [hc1]
          simp (disch := first | omega | exact id rfl | exact jd_i | exact jd_r | exact jd_n | exact jd_f | decide) only [E24_41, E24_42, E24_43, E24_46, nI_add, if_true]
          have hb : ∀ q, some i = some q → q < n ∧ ∃ k, FR q = some k := fun q hq => by cases hq; exact ⟨hi2, hgk i hi2 h1⟩
          rw [E24_4]
          simp (disch := first | omega | exact id rfl | exact jd_i | exact jd_r | exact jd_n | exact jd_f | decide) only [E24_5, E24_6, E24_9, E24_12, E24_13, hI, nI_leI, if_pos (nI_pos' (show i < 2 ^ 31 by omega))]
          have := l49 (nI (i + 1)) (some i) hb
          split
          · exact this
          · exact this
  rw [N24]
  simp (disch := first | omega | exact id rfl | exact jd_i | exact jd_r | exact jd_n | exact jd_f | decide) only [E24_0, E24_1, E24_2, E24_3]
  exact l4 n 0 (Nat.zero_add n)
end JL4
