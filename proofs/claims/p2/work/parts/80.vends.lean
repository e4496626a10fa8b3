/-! the next in hand; a job's end -/
section JS2
variable {d m : Nat} {I : Nat → Int32} {A : Nat → Nat → Int32} {L : Nat → Nat → Int64} {rest : Nat → Option jv_C} {z : Nat × Nat} {n J : Nat} {F S : Nat → Option Nat} {E : Nat → Bool} {q : List (Bool × Nat)} {w : Option (Bool × Nat × Nat)}
theorem js_next_l {p : Nat} (hn : 3 ≤ n ∧ n ≤ 17) (h0 : I 0 = nI n) (hJ : J ≤ 12) (h5 : I 5 = nI J) (hp : I 37 + nI 1 = nI p) (hpJ : p ≤ J) : ∀ (t i : Nat), i + t = J → ∀ (l2 : Option Value), ∃ r, jv_ev (jv_run (d + 3)) 29 36 [some (.ref m), some (.int (nI (i + 1))), l2] [] (jm_H m I A L rest z) = some (some (.int r), jm_H m I A L rest z) ∧ (r = -1 ∨ ∃ j, j < J ∧ r = nI j ∧ jq_rdy A n j = true)
  | 0, i, hi, l2 => by
    refine ⟨-1, ?_, Or.inl rfl⟩
    rw [E29_36]
    simp (disch := first | omega | exact id rfl | exact jd_i | exact jd_r | exact jd_n | exact jd_f | decide) only [E29_37, E29_38, h5, E29_41, nI_ltI, if_pos (show J < i + 1 by omega), E29_80, E29_81]
  | t + 1, i, hi, l2 => by
    have hJ0 : 0 < J := by omega
    have hJz : ¬ nI J = 0 := nI_ne0 hJ0 (by omega)
    have e1 : I 37 + nI (i + 1) = nI (p + i) := by
      rw [← nI_add p i, ← hp, ← nI_add i 1, Int32.add_comm (nI i) (nI 1), Int32.add_assoc]
    have e2 : nI (p + i) - nI (p + i) / nI J * nI J = nI ((p + i) % J) := pk_rem (by omega) hJ0 (by omega)
    have hlt : (p + i) % J < J := Nat.mod_lt _ hJ0
    have a1 := jx_isActive (d := d + 2) (m := m) (A := A) (L := L) (rest := rest) (z := z) (j := (p + i) % J) (by omega) (show 1 ≤ n ∧ n ≤ 17 by omega) h0
    have a2 := jx_isReady (d := d) (m := m) (A := A) (L := L) (rest := rest) (z := z) (j := (p + i) % J) (by omega) hn.2 h0
    obtain ⟨r, ih1, ih2⟩ := js_next_l hn h0 hJ h5 hp hpJ t (i + 1) (by omega) (some (.int (nI ((p + i) % J))))
    rw [E29_36]
    cases c1 : jq_act A n ((p + i) % J) with
    | false =>
      rw [c1] at a1
      refine ⟨r, ?_, ih2⟩
      rw [← ih1]
      simp (disch := first | omega | exact id rfl | exact jd_i | exact jd_r | exact jd_n | exact jd_f | decide | (simp (disch := omega) only [a1, a2, hJz, Option.isSome_some])) only [a1, a2, hJz, Option.isSome_some, Option.getD_some, Option.toList_some, Option.toList_none, List.cons_append, List.nil_append, E29_0, E29_1, E29_4, E29_7, E29_8, E29_9, E29_12, E29_15, E29_18, E29_19, E29_20, E29_23, E29_26, E29_29, E29_30, E29_33, E29_34, E29_35, E29_37, E29_38, E29_41, E29_44, E29_45, E29_48, E29_49, E29_50, E29_51, E29_54, E29_55, E29_56, E29_57, E29_58, E29_61, E29_64, E29_65, E29_66, E29_69, E29_72, E29_73, E29_74, E29_77, E29_80, E29_81, h5, nI_ltI, if_neg (show ¬ J < i + 1 by omega), e1, e2, jq_b0, if_true, nI_add]
    | true =>
      rw [c1] at a1
      have b1 : ¬ jq_b true = 0 := by decide
      cases c2 : jq_rdy A n ((p + i) % J) with
      | false =>
        rw [c2] at a2
        have b2 : jq_b false = 0 := by decide
        refine ⟨r, ?_, ih2⟩
        rw [← ih1]
        simp (disch := first | omega | exact id rfl | exact jd_i | exact jd_r | exact jd_n | exact jd_f | decide | (simp (disch := omega) only [a1, a2, hJz, Option.isSome_some])) only [a1, a2, hJz, Option.isSome_some, Option.getD_some, Option.toList_some, Option.toList_none, List.cons_append, List.nil_append, E29_0, E29_1, E29_4, E29_7, E29_8, E29_9, E29_12, E29_15, E29_18, E29_19, E29_20, E29_23, E29_26, E29_29, E29_30, E29_33, E29_34, E29_35, E29_37, E29_38, E29_41, E29_44, E29_45, E29_48, E29_49, E29_50, E29_51, E29_54, E29_55, E29_56, E29_57, E29_58, E29_61, E29_64, E29_65, E29_66, E29_69, E29_72, E29_73, E29_74, E29_77, E29_80, E29_81, h5, nI_ltI, if_neg (show ¬ J < i + 1 by omega), e1, e2, if_neg b1, if_pos b2, nI_add]
      | true =>
        rw [c2] at a2
        refine ⟨_, ?_, Or.inr ⟨(p + i) % J, hlt, rfl, c2⟩⟩
        simp (disch := first | omega | exact id rfl | exact jd_i | exact jd_r | exact jd_n | exact jd_f | decide | (simp (disch := omega) only [a1, a2, hJz, Option.isSome_some])) only [a1, a2, hJz, Option.isSome_some, Option.getD_some, Option.toList_some, Option.toList_none, List.cons_append, List.nil_append, E29_0, E29_1, E29_4, E29_7, E29_8, E29_9, E29_12, E29_15, E29_18, E29_19, E29_20, E29_23, E29_26, E29_29, E29_30, E29_33, E29_34, E29_35, E29_37, E29_38, E29_41, E29_44, E29_45, E29_48, E29_49, E29_50, E29_51, E29_54, E29_55, E29_56, E29_57, E29_58, E29_61, E29_64, E29_65, E29_66, E29_69, E29_72, E29_73, E29_74, E29_77, E29_80, E29_81, h5, nI_ltI, if_neg (show ¬ J < i + 1 by omega), e1, e2, if_neg b1]
theorem js_next (hX : js_X I A n J F S E q w) : ∃ r, jv_run (d + 4) 29 [.ref m] (jm_H m I A L rest z) = some (some (.int r), jm_H m I A L rest z) ∧ (r = -1 ∨ ∃ j, j < J ∧ r = nI j ∧ jq_rdy A n j = true) := by
  obtain ⟨hB, ⟨h1, h2, h3, h4, h5, h6, h7, h8, h9, h10, h11, h12, h13, h14, h15⟩, hP, hW⟩ := hX
  rw [N29]
  rcases h15 with e | ⟨j, hj, e⟩
  · obtain ⟨r, a1, a2⟩ := js_next_l (d := d) (m := m) (A := A) (L := L) (rest := rest) (z := z) (p := 0) ⟨h2, h3⟩ h1 h5 h4 (by rw [e]; decide) (Nat.zero_le _) J 0 (by omega) none
    refine ⟨r, ?_, a2⟩
    rw [← a1]
    have b1 : (-1 : Int32) < 0 := by decide
    simp (disch := first | omega | exact id rfl | exact jd_i | exact jd_r | exact jd_n | exact jd_f | decide) only [E29_0, E29_1, E29_4, e, if_pos b1, E29_34, E29_35]
  · obtain ⟨r, a1, a2⟩ := js_next_l (d := d) (m := m) (A := A) (L := L) (rest := rest) (z := z) (p := j + 1) ⟨h2, h3⟩ h1 h5 h4 (by rw [e, nI_add]) (by omega) J 0 (by omega) none
    have b1 : ¬ nI j < 0 := nI_pos (by omega)
    have v1 := jx_isActive (d := d + 2) (m := m) (A := A) (L := L) (rest := rest) (z := z) (j := j) (by omega) (show 1 ≤ n ∧ n ≤ 17 by omega) h1
    have v2 := jx_isReady (d := d) (m := m) (A := A) (L := L) (rest := rest) (z := z) (j := j) (by omega) h3 h1
    cases c1 : jq_act A n j with
    | false =>
      rw [c1] at v1
      have b2 : jq_b false = 0 := by decide
      refine ⟨r, ?_, a2⟩
      rw [← a1]
      simp (disch := first | omega | exact id rfl | exact jd_i | exact jd_r | exact jd_n | exact jd_f | decide | (simp (disch := omega) only [v1, v2, Option.isSome_some])) only [v1, v2, Option.isSome_some, Option.getD_some, Option.toList_some, Option.toList_none, List.cons_append, List.nil_append, E29_0, E29_1, E29_4, E29_7, E29_8, E29_9, E29_12, E29_15, e, if_neg b1, if_pos b2, E29_34, E29_35]
    | true =>
      rw [c1] at v1
      have b2 : ¬ jq_b true = 0 := by decide
      cases c2 : jq_rdy A n j with
      | false =>
        rw [c2] at v2
        have b3 : jq_b false = 0 := by decide
        refine ⟨r, ?_, a2⟩
        rw [← a1]
        simp (disch := first | omega | exact id rfl | exact jd_i | exact jd_r | exact jd_n | exact jd_f | decide | (simp (disch := omega) only [v1, v2, Option.isSome_some])) only [v1, v2, Option.isSome_some, Option.getD_some, Option.toList_some, Option.toList_none, List.cons_append, List.nil_append, E29_0, E29_1, E29_4, E29_7, E29_8, E29_9, E29_12, E29_15, E29_18, E29_19, E29_20, E29_23, E29_26, e, if_neg b1, if_neg b2, if_pos b3, E29_34, E29_35]
      | true =>
        rw [c2] at v2
        refine ⟨nI j, ?_, Or.inr ⟨j, hj, rfl, c2⟩⟩
        simp (disch := first | omega | exact id rfl | exact jd_i | exact jd_r | exact jd_n | exact jd_f | decide | (simp (disch := omega) only [v1, v2, Option.isSome_some])) only [v1, v2, Option.isSome_some, Option.getD_some, Option.toList_some, Option.toList_none, List.cons_append, List.nil_append, E29_0, E29_1, E29_4, E29_7, E29_8, E29_9, E29_12, E29_15, E29_18, E29_19, E29_20, E29_23, E29_26, E29_29, E29_30, E29_33, e, if_neg b1, if_neg b2]
/-- a block in a frame that is not locked vanishes -/
theorem js_van_f {f k : Nat} (hX : js_X I A n J F S E q w) (hf : F f = some k) (hl : ¬ jz_lk q w f) : js_X (upd I 22 (I 22 - nI 1)) (va_up (jq_leave A f) 20 (upd (A 20) k (nI 0))) n J (va_up F f none) S (va_up E k false) q w := by
  obtain ⟨hB, ⟨h1, h2, h3, h4, h5, h6, h7, h8, h9, h10, h11, h12, h13, h14, h15⟩, hP, hW⟩ := hX
  have hk : k < 768 := by have := (hP.1 f k hf).2; omega
  have hE : E k = true := (hP.2.2.2.2.1 k).mpr (Or.inl ⟨f, hf⟩)
  have hcn := jz_cnt_del (E := E) (N := 768) hk hE
  refine ⟨jr_bI (jr_bA (js_B_leave hB) (js_ub hB (fun b hb => by cases hb; exact ⟨by decide, by decide⟩))) (fun b hb => by cases hb), ⟨h1, h2, h3, h4, h5, fun g hg => ?_, h7, fun k' hk' => ?_, fun g hg => ?_, h10, h11, h12, h13, ?_, h15⟩, jz_van_f hk hP hf hl, fun g k' hp e => ?_⟩
  · show jq_leave A f 23 g = _
    rw [js_leave23]
    by_cases y : g = f
    · rw [if_pos y, y, jz_us]; rfl
    · rw [if_neg y, jz_un y]; exact h6 g hg
  · show (if k' = k then nI 0 else A 20 k') = _
    by_cases y : k' = k
    · rw [if_pos y, y, jz_us]; rfl
    · rw [if_neg y, jz_un y]; exact h8 k' hk'
  · show (jz_lk q w g → jq_leave A f 26 g = _) ∧ (¬ jz_lk q w g → jq_leave A f 26 g = _)
    rw [js_leave26]
    by_cases y : g = f
    · subst y
      rw [if_pos rfl]
      exact ⟨fun u => absurd u hl, fun _ => rfl⟩
    · rw [if_neg y]
      exact h9 g hg
  · show I 22 - nI 1 = _
    rw [h14, pk_sub (by omega)]
    congr 1
    omega
  · have y : ¬ g = f := fun y => by rw [y, jz_us] at e; cases e
    rw [jz_un y] at e
    exact hW g k' hp e
/-- a block on a sector alone vanishes -/
theorem js_van_s {s k : Nat} (hX : js_X I A n J F S E q w) (hs : S s = some k) (hf : ∀ f, ¬ F f = some k) : js_X (upd I 22 (I 22 - nI 1)) (va_up (va_up A 28 (upd (A 28) s (-1))) 20 (upd (A 20) k (nI 0))) n J F (va_up S s none) (va_up E k false) q w := by
  obtain ⟨hB, ⟨h1, h2, h3, h4, h5, h6, h7, h8, h9, h10, h11, h12, h13, h14, h15⟩, hP, hW⟩ := hX
  have hk : k < 768 := by have := (hP.2.1 s k hs).2; omega
  have hE : E k = true := (hP.2.2.2.2.1 k).mpr (Or.inr ⟨s, hs⟩)
  have hcn := jz_cnt_del (E := E) (N := 768) hk hE
  refine ⟨jr_bI (jr_bA (jr_bA hB (js_ub hB (fun b hb => by cases hb; rw [js_m1]; exact ⟨by decide, by decide⟩))) (js_ub hB (fun b hb => by cases hb; exact ⟨by decide, by decide⟩))) (fun b hb => by cases hb), ⟨h1, h2, h3, h4, h5, h6, fun t ht => ?_, fun k' hk' => ?_, h9, h10, h11, h12, h13, ?_, h15⟩, jz_van_s hk hP hs hf, hW⟩
  · show (if t = s then (-1 : Int32) else A 28 t) = _
    by_cases y : t = s
    · rw [if_pos y, y, jz_us]; rfl
    · rw [if_neg y, jz_un y]; exact h7 t ht
  · show (if k' = k then nI 0 else A 20 k') = _
    by_cases y : k' = k
    · rw [if_pos y, y, jz_us]; rfl
    · rw [if_neg y, jz_un y]; exact h8 k' hk'
  · show I 22 - nI 1 = _
    rw [h14, pk_sub (by omega)]
    congr 1
    omega
theorem js_split {α : Type} : ∀ (q : List α) (t : Nat) (x : α), q[t]? = some x → ∃ p r, q = p ++ x :: r ∧ p.length = t
  | [], t, x, e => by simp at e
  | y :: q, 0, x, e => by
    simp at e
    subst e
    exact ⟨[], q, rfl, rfl⟩
  | y :: q, t + 1, x, e => by
    rw [List.getElem?_cons_succ] at e
    obtain ⟨p, r, h1, h2⟩ := js_split q t x e
    exact ⟨y :: p, r, by rw [h1]; rfl, by rw [List.length_cons, h2]⟩
theorem js_dec {x : Int32} : x + (-1) = x - nI 1 := by
  rw [Int32.sub_eq_add_neg]
  rfl
theorem js_del_i {α : Type} {p r : List α} {x : α} {i : Nat} : (p ++ r)[i]? = if i < p.length then (p ++ x :: r)[i]? else (p ++ x :: r)[i + 1]? := by
  by_cases h : i < p.length
  · rw [if_pos h, List.getElem?_append_left h, List.getElem?_append_left h]
  · rw [if_neg h, List.getElem?_append_right (by omega), List.getElem?_append_right (by omega), show i + 1 - p.length = (i - p.length) + 1 by omega, List.getElem?_cons_succ]
/-- an asked write is dropped -/
theorem js_drop {p r : List (Bool × Nat)} {f : Nat} (hX : js_X I A n J F S E (p ++ (true, f) :: r) w) : js_X (upd I 31 (nI (p.length + r.length))) (jq_drop (va_up A 26 (upd (A 26) f (nI 0))) p.length (p.length + r.length)) n J F S E (p ++ r) w := by
  obtain ⟨hB, ⟨h1, h2, h3, h4, h5, h6, h7, h8, h9, h10, h11, h12, h13, h14, h15⟩, hP, hW⟩ := hX
  have hlen := jz_len hP
  rw [List.length_append, List.length_cons] at hlen
  have hnd := hP.2.2.2.2.2.1
  have hnf : ¬ f ∈ ((p ++ r).map fun a => a.2) := by
    rw [List.map_append, List.map_cons] at hnd
    rw [List.map_append, List.mem_append]
    rw [List.nodup_append] at hnd
    obtain ⟨_, n2, n3⟩ := hnd
    rw [List.nodup_cons] at n2
    rintro (u | u)
    · exact n3 f u f List.mem_cons_self rfl
    · exact n2.1 u
  have hlf : ¬ jz_lk (p ++ r) w f := by
    rintro (u | ⟨b, s, u⟩)
    · exact hnf u
    · refine (hP.2.2.2.2.2.2.2.1 b f s u).1 ?_
      rw [List.map_append, List.map_cons]
      exact List.mem_append_right _ List.mem_cons_self
  have hlk : ∀ g, ¬ g = f → (jz_lk (p ++ r) w g ↔ jz_lk (p ++ (true, f) :: r) w g) := fun g hg => by
    unfold jz_lk
    rw [List.map_append, List.map_append, List.map_cons, List.mem_append, List.mem_append, List.mem_cons]
    constructor
    · rintro ((u | u) | u)
      · exact Or.inl (Or.inl u)
      · exact Or.inl (Or.inr (Or.inr u))
      · exact Or.inr u
    · rintro ((u | u | u) | u)
      · exact Or.inl (Or.inl u)
      · exact absurd u hg
      · exact Or.inl (Or.inr u)
      · exact Or.inr u
  refine ⟨js_bI31 (js_B_drop (jr_bA hB (js_ub hB (fun b hb => by cases hb; exact ⟨by decide, by decide⟩)))) (by omega), ⟨h1, h2, h3, h4, h5, h6, h7, h8, fun g hg => ?_, ?_, fun i b g e => ?_, h12, h13, h14, h15⟩, jz_drop hP, fun g k' hp e => hW g k' ?_ e⟩
  · show (jz_lk (p ++ r) w g → (if g = f then nI 0 else A 26 g) = _) ∧ (¬ jz_lk (p ++ r) w g → (if g = f then nI 0 else A 26 g) = _)
    by_cases y : g = f
    · subst y
      rw [if_pos rfl]
      exact ⟨fun u => absurd u hlf, fun _ => rfl⟩
    · rw [if_neg y]
      exact ⟨fun u => (h9 g hg).1 ((hlk g y).mp u), fun u => (h9 g hg).2 (fun v => u ((hlk g y).mpr v))⟩
  · show nI (p.length + r.length) = _
    rw [List.length_append]
  · rw [js_drop29, js_drop30]
    rw [js_del_i (x := (true, f))] at e
    by_cases y : i < p.length
    · rw [if_pos y] at e
      rw [if_neg (by omega), if_neg (by omega)]
      exact h11 i b g e
    · rw [if_neg y] at e
      have hi : i + 1 < (p ++ (true, f) :: r).length := by
        apply Classical.byContradiction
        intro hn
        rw [List.getElem?_eq_none (by omega)] at e
        cases e
      rw [List.length_append, List.length_cons] at hi
      rw [if_pos (by omega), if_pos (by omega)]
      exact h11 (i + 1) b g e
  · rcases hp with u | u
    · refine Or.inl ?_
      rcases List.mem_append.mp u with u | u
      · exact List.mem_append_left _ u
      · exact List.mem_append_right _ (List.mem_cons_of_mem _ u)
    · exact Or.inr u
theorem js_end_l1 {j : Nat} {how : Int32} (hj : j < 12) : ∀ (t : Nat) (I : Nat → Int32) (A : Nat → Nat → Int32) (q : List (Bool × Nat)), t ≤ q.length → js_X I A n J F S E q w → A 18 j = nI 0 → ∀ (l4 : Option Value), ∃ I' A' q' l4', jv_ev (jv_run (d + 1)) 30 21 [some (.ref m), some (.int (nI j)), some (.int how), some (.int (nI t - nI 1)), l4] [] (jm_H m I A L rest z) = jv_ev (jv_run (d + 1)) 30 69 [some (.ref m), some (.int (nI j)), some (.int how), some (.int (-1)), l4'] [] (jm_H m I' A' L rest z) ∧ js_X I' A' n J F S E q' w ∧ I' 5 = I 5
  | 0, I, A, q, ht, hX, h18, l4 => by
    refine ⟨I, A, q, l4, ?_, hX, rfl⟩
    have b1 : nI 0 - nI 1 = -1 := by decide
    have b2 : (-1 : Int32) < 0 := by decide
    rw [E30_21, b1]
    simp (disch := first | omega | exact id rfl | exact jd_i | exact jd_r | exact jd_n | exact jd_f | decide) only [E30_22, if_pos b2]
  | t + 1, I, A, q, ht, hX, h18, l4 => by
    have hX' := hX
    obtain ⟨hB, ⟨h1, h2, h3, h4, h5, h6, h7, h8, h9, h10, h11, h12, h13, h14, h15⟩, hP, hW⟩ := hX'
    have hlen := jz_len hP
    cases et : q[t]? with
    | none =>
      rw [List.getElem?_eq_none_iff] at et
      omega
    | some x =>
      obtain ⟨b, f⟩ := x
      obtain ⟨e29, e30⟩ := h11 t b f et
      have hmem := List.mem_of_getElem? et
      obtain ⟨k, a3, _, _⟩ := hP.2.2.2.2.2.2.1 b f hmem
      have hf := (hP.1 f k a3).1
      have hk := (hP.1 f k a3).2
      have e23 : A 23 f = nI k := by rw [h6 f (by omega), a3]; rfl
      have e1 : nI k / nI 64 = nI (k / 64) := pk_div (by omega) (by decide) (by decide)
      have b1 : nI (t + 1) - nI 1 = nI t := pk_sub (by omega)
      have b2 : ¬ nI t < 0 := nI_pos (by omega)
      rw [E30_21, b1]
      by_cases c : k / 64 = j
      · have hb : b = true := by
          cases b with
          | true => rfl
          | false =>
            have := (hW f k (Or.inl hmem) a3).1
            rw [c, h18] at this
            exact absurd this (by decide)
        subst hb
        obtain ⟨p, r, hq, hp⟩ := js_split q t _ et
        subst hq
        subst hp
        have hl2 : (p ++ (true, f) :: r).length = p.length + r.length + 1 := by rw [List.length_append, List.length_cons]; omega
        have hdr := jx_drop (d := d) (m := m) (I := I) (A := va_up A 26 (upd (A 26) f (nI 0))) (L := L) (rest := rest) (z := z) (k := p.length) (n := p.length + r.length) (by omega) (by omega) (by rw [h10, hl2])
        have hX2 := js_drop hX
        obtain ⟨I', A', q', l4', i1, i2, i3⟩ := js_end_l1 (how := how) hj p.length _ _ (p ++ r) (by rw [List.length_append]; omega) hX2 h18 (some (.int (nI f)))
        refine ⟨I', A', q', l4', ?_, i2, i3⟩
        rw [← i1]
        have c' : nI (k / 64) = nI j := by rw [c]
        simp (disch := first | omega | exact id rfl | exact jd_i | exact jd_r | exact jd_n | exact jd_f | decide | (simp (disch := omega) only [hdr, Option.isSome_some])) only [hdr, Option.isSome_some, Option.getD_some, Option.toList_some, Option.toList_none, List.cons_append, List.nil_append, E30_22, E30_25, E30_26, E30_29, E30_30, E30_31, E30_33, E30_34, E30_37, E30_39, E30_40, E30_42, E30_43, E30_44, E30_50, E30_51, E30_54, E30_56, E30_57, E30_58, E30_59, E30_60, E30_63, E30_66, if_neg b2, e30, e23, e1, if_pos c', js_dec]
      · obtain ⟨I', A', q', l4', i1, i2, i3⟩ := js_end_l1 (how := how) hj t I A q (by omega) hX h18 (some (.int (nI f)))
        refine ⟨I', A', q', l4', ?_, i2, i3⟩
        rw [← i1]
        have c' : ¬ nI (k / 64) = nI j := fun e => c ((nI_eq (by omega) (by omega)).mp e)
        simp (disch := first | omega | exact id rfl | exact jd_i | exact jd_r | exact jd_n | exact jd_f | decide) only [E30_22, E30_25, E30_26, E30_29, E30_30, E30_31, E30_33, E30_34, E30_37, E30_39, E30_40, E30_42, E30_43, E30_44, E30_47, E30_63, E30_66, if_neg b2, e30, e23, e1, if_neg c', js_dec]
theorem js_end_l2 {j : Nat} {how : Int32} (hj : j < J) : ∀ (t k : Nat), k + t = 64 → ∀ (I : Nat → Int32) (A : Nat → Nat → Int32) (F S : Nat → Option Nat) (E : Nat → Bool), js_X I A n J F S E q w → ∀ (l4 : Option Value), ∃ I' A', jv_ev (jv_run (d + 1)) 30 74 [some (.ref m), some (.int (nI j)), some (.int how), some (.int (nI (64 * j + k))), l4] [] (jm_H m I A L rest z) = some (none, jm_H m I' A' L rest z) ∧ js_T I' A' ∧ I' 5 = I 5
  | 0, k, hk, I, A, F, S, E, hX, l4 => by
    have hJ := hX.2.1.2.2.2.2.1
    refine ⟨I, A, ?_, js_X_T hX, rfl⟩
    rw [E30_74]
    simp (disch := first | omega | exact id rfl | exact jd_i | exact jd_r | exact jd_n | exact jd_f | decide) only [E30_75, E30_77, E30_78, E30_79, E30_81, E30_82, E30_158, pk_mul, nI_add, nI_leI, if_pos (show 64 * j + 64 ≤ 64 * j + k by omega)]
  | t + 1, k, hk, I, A, F, S, E, hX, l4 => by
    have hX' := hX
    obtain ⟨hB, ⟨h1, h2, h3, h4, h5, h6, h7, h8, h9, h10, h11, h12, h13, h14, h15⟩, hP, hW⟩ := hX'
    have hkF : ∀ f k, F f = some k → k < 768 := fun f k e => by have := (hP.1 f k e).2; omega
    have hkS : ∀ f k, S f = some k → k < 768 := fun f k e => by have := (hP.2.1 f k e).2; omega
    have e20 : A 20 (64 * j + k) = jq_b (E (64 * j + k)) := h8 _ (by omega)
    have hlt : ¬ 64 * j + 64 ≤ 64 * j + k := by omega
    have hi768 : 64 * j + k < 768 := by omega
    rw [E30_74]
    cases c0 : E (64 * j + k) with
    | false =>
      rw [c0] at e20
      have e20' : A 20 (64 * j + k) = nI 0 := e20
      have b0 : ¬ ¬ nI 0 = 0 := by decide
      obtain ⟨I', A', i1, i2, i3⟩ := js_end_l2 (how := how) hj t (k + 1) (by omega) I A F S E hX l4
      refine ⟨I', A', ?_, i2, i3⟩
      rw [← i1]
      simp (disch := first | omega | exact id rfl | exact jd_i | exact jd_r | exact jd_n | exact jd_f | decide) only [E30_75, E30_77, E30_78, E30_79, E30_81, E30_82, E30_85, E30_86, E30_89, E30_90, E30_91, E30_94, E30_152, E30_155, pk_mul, nI_add, nI_leI, if_neg hlt, e20', if_neg b0]
      rfl
    | true =>
      rw [c0] at e20
      have e20' : A 20 (64 * j + k) = nI 1 := e20
      have b0 : ¬ nI 1 = 0 := by decide
      by_cases c1 : ∃ f, F f = some (64 * j + k)
      · obtain ⟨f0, ef0⟩ := c1
        obtain ⟨f, ef, hfn, eF⟩ := js_fi_some (f := A 23) (G := F) (o := some (64 * j + k)) (N := n) (fun i hi => h6 i (by omega)) hkF (fun k' e => by cases e; exact hi768) (hP.1 f0 _ ef0).1 ef0
        have hfo : jv_run (d + 1) 8 [.ref m, .int (nI (64 * j + k))] (jm_H m I A L rest z) = some (some (.int (nI f)), jm_H m I A L rest z) := by
          rw [jx_frameOf h3 h1]
          have : jq_fi (A 23) (nI (64 * j + k)) 0 n = some f := ef
          rw [this]
          rfl
        have b1 : ¬ nI f < 0 := nI_pos (by omega)
        by_cases c2 : jz_lk q w f
        · have e26 := (h9 f (by omega)).1 c2
          obtain ⟨I', A', i1, i2, i3⟩ := js_end_l2 (how := how) hj t (k + 1) (by omega) I A F S E hX (some (.int (nI f)))
          refine ⟨I', A', ?_, i2, i3⟩
          rw [← i1]
          simp (disch := first | omega | exact id rfl | exact jd_i | exact jd_r | exact jd_n | exact jd_f | decide | (simp (disch := omega) only [hfo, Option.isSome_some])) only [hfo, Option.isSome_some, Option.getD_some, Option.toList_some, Option.toList_none, List.cons_append, List.nil_append, E30_75, E30_77, E30_78, E30_79, E30_81, E30_82, E30_85, E30_86, E30_89, E30_90, E30_91, E30_97, E30_98, E30_99, E30_102, E30_104, E30_106, E30_109, E30_110, E30_113, E30_115, E30_116, E30_119, E30_152, E30_155, pk_mul, nI_add, nI_leI, if_neg hlt, e20', if_pos b0, if_neg b1, e26, if_neg b0]
          rfl
        · have e26 := (h9 f (by omega)).2 c2
          have b3 : nI 0 = 0 := by decide
          have hX2 := js_van_f hX eF c2
          obtain ⟨I', A', i1, i2, i3⟩ := js_end_l2 (how := how) hj t (k + 1) (by omega) _ _ _ _ _ hX2 (some (.int (nI f)))
          refine ⟨I', A', ?_, i2, i3⟩
          rw [← i1]
          have hle := jx_leave (d := d) (m := m) (I := I) (A := A) (L := L) (rest := rest) (z := z) (f := f) (by omega)
          have hva := jx_vanish (d := d) (m := m) (I := I) (A := jq_leave A f) (L := L) (rest := rest) (z := z) hi768
          have b4 : jq_leave A f 20 = A 20 := rfl
          rw [b4] at hva
          simp (disch := first | omega | exact id rfl | exact jd_i | exact jd_r | exact jd_n | exact jd_f | decide | (simp (disch := omega) only [hfo, hle, hva, Option.isSome_some])) only [hfo, hle, hva, Option.isSome_some, Option.getD_some, Option.toList_some, Option.toList_none, List.cons_append, List.nil_append, E30_75, E30_77, E30_78, E30_79, E30_81, E30_82, E30_85, E30_86, E30_89, E30_90, E30_91, E30_97, E30_98, E30_99, E30_102, E30_104, E30_106, E30_109, E30_110, E30_113, E30_115, E30_116, E30_122, E30_124, E30_127, E30_128, E30_130, E30_133, E30_147, E30_148, E30_149, E30_152, E30_155, pk_mul, nI_add, nI_leI, if_neg hlt, e20', if_pos b0, if_neg b1, e26, if_pos b3]
          rfl
      · have nf : ∀ f, ¬ F f = some (64 * j + k) := fun f e => c1 ⟨f, e⟩
        have hfo : jv_run (d + 1) 8 [.ref m, .int (nI (64 * j + k))] (jm_H m I A L rest z) = some (some (.int (-1)), jm_H m I A L rest z) := by
          rw [jx_frameOf h3 h1]
          have : jq_fi (A 23) (nI (64 * j + k)) 0 n = none := js_fi_none (f := A 23) (G := F) (o := some (64 * j + k)) (N := n) (fun i hi => h6 i (by omega)) hkF (fun k' e => by cases e; exact hi768) (fun p _ => nf p)
          rw [this]
          rfl
        have hex : ∃ s, S s = some (64 * j + k) := by
          rcases (hP.2.2.2.2.1 (64 * j + k)).mp c0 with u | u
          · exact absurd u c1
          · exact u
        obtain ⟨s0, es0⟩ := hex
        obtain ⟨s, es, hs, eS⟩ := js_fi_some (f := A 28) (G := S) (o := some (64 * j + k)) (N := 64) h7 hkS (fun k' e => by cases e; exact hi768) (hP.2.1 s0 _ es0).1 es0
        have hso : jv_run (d + 1) 9 [.ref m, .int (nI (64 * j + k))] (jm_H m I A L rest z) = some (some (.int (nI s)), jm_H m I A L rest z) := by
          rw [jx_sectorOf]
          have : jq_fi (A 28) (nI (64 * j + k)) 0 64 = some s := es
          rw [this]
          rfl
        have b1 : (-1 : Int32) < 0 := by decide
        have hX2 := js_van_s hX eS nf
        obtain ⟨I', A', i1, i2, i3⟩ := js_end_l2 (how := how) hj t (k + 1) (by omega) _ _ _ _ _ hX2 (some (.int (-1)))
        refine ⟨I', A', ?_, i2, i3⟩
        rw [← i1]
        have hva := jx_vanish (d := d) (m := m) (I := I) (A := va_up A 28 (upd (A 28) s (-1))) (L := L) (rest := rest) (z := z) hi768
        have b4 : va_up A 28 (upd (A 28) s (-1)) 20 = A 20 := rfl
        rw [b4] at hva
        simp (disch := first | omega | exact id rfl | exact jd_i | exact jd_r | exact jd_n | exact jd_f | decide | (simp (disch := omega) only [hfo, hso, hva, Option.isSome_some])) only [hfo, hso, hva, Option.isSome_some, Option.getD_some, Option.toList_some, Option.toList_none, List.cons_append, List.nil_append, E30_75, E30_77, E30_78, E30_79, E30_81, E30_82, E30_85, E30_86, E30_89, E30_90, E30_91, E30_97, E30_98, E30_99, E30_102, E30_104, E30_106, E30_122, E30_124, E30_136, E30_137, E30_140, E30_141, E30_142, E30_145, E30_146, E30_147, E30_148, E30_149, E30_152, E30_155, pk_mul, nI_add, nI_leI, if_neg hlt, e20', if_pos b0, if_pos b1]
        rfl
theorem js_ends {j : Nat} {how : Int32} (hj : j < J) (hX : js_X I A n J F S E q w) (h18 : A 18 j = nI 0) : ∃ I' A', jv_run (d + 2) 30 [.ref m, .int (nI j), .int how] (jm_H m I A L rest z) = some (none, jm_H m I' A' L rest z) ∧ js_T I' A' ∧ I' 5 = I 5 := by
  have hJ := hX.2.1.2.2.2.2.1
  have h10 := hX.2.1.2.2.2.2.2.2.2.2.2.1
  have hX1 : js_X I (va_up (va_up A 8 (upd (A 8) j how)) 18 (upd (A 18) j (nI 0))) n J F S E q w := by
    obtain ⟨hB, ⟨h1, h2, h3, h4, h5, h6, h7, h8, h9, h10, h11, h12, h13, h14, h15⟩, hP, hW⟩ := hX
    refine ⟨jr_bA (jr_bA hB (fun b hb => by cases hb)) (fun b hb => by cases hb), ⟨h1, h2, h3, h4, h5, h6, h7, h8, h9, h10, h11, h12, h13, h14, h15⟩, hP, fun g k' hp e => ?_⟩
    have := hW g k' hp e
    refine ⟨?_, this.2⟩
    show (if k' / 64 = j then nI 0 else A 18 (k' / 64)) = _
    by_cases y : k' / 64 = j
    · rw [y, h18] at this
      exact absurd this.1 (by decide)
    · rw [if_neg y]
      exact this.1
  obtain ⟨I1, A1, q1, l4, i1, i2, i3⟩ := js_end_l1 (d := d) (m := m) (L := L) (rest := rest) (z := z) (how := how) (by omega) q.length _ _ q (Nat.le_refl _) hX1 (show (if j = j then nI 0 else A 18 j) = _ from if_pos rfl) none
  obtain ⟨I2, A2, k1, k2, k3⟩ := js_end_l2 (d := d) (m := m) (L := L) (rest := rest) (z := z) (how := how) hj 64 0 (by omega) _ _ _ _ _ i2 l4
  refine ⟨I2, A2, ?_, k2, k3.trans i3⟩
  rw [N30]
  simp (disch := first | omega | exact id rfl | exact jd_i | exact jd_r | exact jd_n | exact jd_f | decide) only [E30_0, E30_1, E30_4, E30_5, E30_6, E30_7, E30_8, E30_11, E30_12, E30_13, E30_14, E30_15, E30_18, E30_19, E30_20, h10, va_up_ne]
  rw [i1]
  simp (disch := first | omega | exact id rfl | exact jd_i | exact jd_r | exact jd_n | exact jd_f | decide) only [E30_69, E30_71, E30_72, E30_73, pk_mul]
  exact k1
end JS2
