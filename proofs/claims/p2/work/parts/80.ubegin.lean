/-! a transfer begins -/
section JS2
variable {d m : Nat} {I : Nat → Int32} {A : Nat → Nat → Int32} {L : Nat → Nat → Int64} {rest : Nat → Option jv_C} {z : Nat × Nat} {n J : Nat} {F S : Nat → Option Nat} {E : Nat → Bool} {q : List (Bool × Nat)} {w : Option (Bool × Nat × Nat)}
def jq_pas (c s : Int32) : Int32 := c + (nI 2 * (s - s / nI 16 * nI 16) - (c - c / nI 32 * nI 32) + nI 32 - (nI 2 * (s - s / nI 16 * nI 16) - (c - c / nI 32 * nI 32) + nI 32) / nI 32 * nI 32)
theorem jx_pas {s : Int32} : jv_run (d + 1) 27 [.ref m, .int s] (jm_H m I A L rest z) = some (some (.int (jq_pas (I 36) s)), jm_H m I A L rest z) := by
  rw [N27]
  simp (disch := first | omega | exact id rfl | exact jd_i | exact jd_r | exact jd_n | exact jd_f | decide) only [E27_0, E27_1, E27_2, E27_4, E27_5, E27_6, E27_7, E27_8, E27_11, E27_12, E27_13, E27_16, E27_18, E27_19, E27_20, E27_22, E27_23, E27_25, E27_26, E27_27]
  rfl
theorem js_uu {f : Nat → Int32} {k : Nat} {a b : Int32} : upd (upd f k a) k b = upd f k b := by
  funext i
  unfold upd
  split <;> rfl
theorem js_fi_some {f : Nat → Int32} {G : Nat → Option Nat} {o : Option Nat} {N p : Nat} (hf : ∀ i, i < N → f i = jq_o (G i)) (hG : ∀ i k, G i = some k → k < 768) (ho : ∀ k, o = some k → k < 768) (hp : p < N) (e : G p = o) : ∃ p', jq_fi f (jq_o o) 0 N = some p' ∧ p' < N ∧ G p' = o := by
  have h := js_fi hf hG ho N 0 (by omega)
  cases hx : jq_fi f (jq_o o) 0 N with
  | none =>
    rw [hx] at h
    exact absurd e (h p (by omega) hp)
  | some p' =>
    rw [hx] at h
    exact ⟨p', rfl, h.2.1, h.2.2.1⟩
theorem js_fi_none {f : Nat → Int32} {G : Nat → Option Nat} {o : Option Nat} {N : Nat} (hf : ∀ i, i < N → f i = jq_o (G i)) (hG : ∀ i k, G i = some k → k < 768) (ho : ∀ k, o = some k → k < 768) (hn : ∀ p, p < N → ¬ G p = o) : jq_fi f (jq_o o) 0 N = none := by
  have h := js_fi hf hG ho N 0 (by omega)
  cases hx : jq_fi f (jq_o o) 0 N with
  | none => rfl
  | some p' =>
    rw [hx] at h
    exact absurd h.2.2.1 (hn p' h.2.1)
/-- the search for a free sector -/
theorem js_beg_l {x : Int32} (hex : ∃ p, p < 64 ∧ A 28 p < 0) : ∀ (t i : Nat), i + t = 64 → ∀ (o : Option Nat), (∀ s, o = some s → s < 64 ∧ A 28 s < 0) → (o = none → ∀ p, p < i → ¬ A 28 p < 0) → ∃ s, s < 64 ∧ A 28 s < 0 ∧ jv_ev (jv_run (d + 1)) 28 82 [some (.ref m), some (.int x), some (.int (nI i))] [] (jm_H m (upd I 34 (jq_o o)) A L rest z) = jv_ev (jv_run (d + 1)) 28 131 [some (.ref m), some (.int x), some (.int (nI 64))] [] (jm_H m (upd I 34 (nI s)) A L rest z)
  | 0, i, hi, o, ho, hn => by
    have hi : i = 64 := by omega
    subst hi
    cases o with
    | none =>
      obtain ⟨p, h1, h2⟩ := hex
      exact absurd h2 (hn rfl p h1)
    | some s =>
      refine ⟨s, (ho s rfl).1, (ho s rfl).2, ?_⟩
      rw [E28_82]
      simp (disch := first | omega | exact id rfl | exact jd_i | exact jd_r | exact jd_n | exact jd_f | decide) only [E28_83, E28_85, nI_leI, if_pos (show 64 ≤ 64 by omega)]
      rfl
  | t + 1, i, hi, o, ho, hn => by
    have hi64 : i < 64 := by omega
    have ih := js_beg_l (x := x) hex t (i + 1) (by omega)
    rw [E28_82]
    by_cases c1 : 0 ≤ A 28 i
    · obtain ⟨s, a1, a2, a3⟩ := ih o ho (fun e p hp => by
        by_cases y : p = i
        · subst y
          exact Int32.not_lt.mpr c1
        · exact hn e p (by omega))
      refine ⟨s, a1, a2, ?_⟩
      rw [← a3]
      simp (disch := first | omega | exact id rfl | exact jd_i | exact jd_r | exact jd_n | exact jd_f | decide) only [E28_0, E28_1, E28_2, E28_5, E28_6, E28_7, E28_10, E28_11, E28_12, E28_15, E28_16, E28_17, E28_20, E28_21, E28_22, E28_25, E28_26, E28_29, E28_30, E28_33, E28_34, E28_35, E28_36, E28_39, E28_40, E28_43, E28_44, E28_45, E28_46, E28_49, E28_52, E28_53, E28_56, E28_57, E28_60, E28_61, E28_62, E28_63, E28_63i, E28_64, E28_67, E28_68, E28_69, E28_72, E28_75, E28_76, E28_77, E28_80, E28_81, E28_83, E28_85, E28_88, E28_89, E28_92, E28_93, E28_94, E28_97, E28_98, E28_101, E28_104, E28_105, E28_106, E28_109, E28_110, E28_111, E28_114, E28_117, E28_120, E28_121, E28_122, E28_125, E28_128, E28_132, E28_135, E28_136, E28_139, E28_140, E28_141, E28_142, E28_142i, E28_143, E28_146, E28_147, E28_148, E28_151, E28_152, E28_153, E28_154, E28_157, E28_160, E28_161, E28_162, E28_165, nI_leI, if_neg (show ¬ 64 ≤ i by omega), if_pos c1, nI_add]
    · have c1' : A 28 i < 0 := Int32.not_le.mp c1
      obtain ⟨s, a1, a2, a3⟩ := ih (some i) (fun s e => by cases e; exact ⟨hi64, c1'⟩) (fun e => by cases e)
      cases o with
      | none =>
        refine ⟨s, a1, a2, ?_⟩
        rw [← a3]
        have e1 : jq_o none < 0 := by decide
        simp (disch := first | omega | exact id rfl | exact jd_i | exact jd_r | exact jd_n | exact jd_f | decide) only [E28_0, E28_1, E28_2, E28_5, E28_6, E28_7, E28_10, E28_11, E28_12, E28_15, E28_16, E28_17, E28_20, E28_21, E28_22, E28_25, E28_26, E28_29, E28_30, E28_33, E28_34, E28_35, E28_36, E28_39, E28_40, E28_43, E28_44, E28_45, E28_46, E28_49, E28_52, E28_53, E28_56, E28_57, E28_60, E28_61, E28_62, E28_63, E28_63i, E28_64, E28_67, E28_68, E28_69, E28_72, E28_75, E28_76, E28_77, E28_80, E28_81, E28_83, E28_85, E28_88, E28_89, E28_92, E28_93, E28_94, E28_97, E28_98, E28_101, E28_104, E28_105, E28_106, E28_109, E28_110, E28_111, E28_114, E28_117, E28_120, E28_121, E28_122, E28_125, E28_128, E28_132, E28_135, E28_136, E28_139, E28_140, E28_141, E28_142, E28_142i, E28_143, E28_146, E28_147, E28_148, E28_151, E28_152, E28_153, E28_154, E28_157, E28_160, E28_161, E28_162, E28_165, nI_leI, if_neg (show ¬ 64 ≤ i by omega), if_neg c1, pk_us, if_pos e1, js_uu, nI_add]
        rfl
      | some s0 =>
        have e1 : ¬ jq_o (some s0) < 0 := nI_pos (by have := (ho s0 rfl).1; omega)
        by_cases c2 : jq_pas (I 36) (jq_o (some s0)) ≤ jq_pas (I 36) (nI i)
        · obtain ⟨s', b1, b2, b3⟩ := ih (some s0) ho (fun e => by cases e)
          refine ⟨s', b1, b2, ?_⟩
          rw [← b3]
          simp (disch := first | omega | exact id rfl | exact jd_i | exact jd_r | exact jd_n | exact jd_f | decide | (simp (disch := omega) only [jx_pas, Option.isSome_some])) only [jx_pas, Option.isSome_some, Option.getD_some, Option.toList_some, Option.toList_none, List.cons_append, List.nil_append, E28_0, E28_1, E28_2, E28_5, E28_6, E28_7, E28_10, E28_11, E28_12, E28_15, E28_16, E28_17, E28_20, E28_21, E28_22, E28_25, E28_26, E28_29, E28_30, E28_33, E28_34, E28_35, E28_36, E28_39, E28_40, E28_43, E28_44, E28_45, E28_46, E28_49, E28_52, E28_53, E28_56, E28_57, E28_60, E28_61, E28_62, E28_63, E28_63i, E28_64, E28_67, E28_68, E28_69, E28_72, E28_75, E28_76, E28_77, E28_80, E28_81, E28_83, E28_85, E28_88, E28_89, E28_92, E28_93, E28_94, E28_97, E28_98, E28_101, E28_104, E28_105, E28_106, E28_109, E28_110, E28_111, E28_114, E28_117, E28_120, E28_121, E28_122, E28_125, E28_128, E28_132, E28_135, E28_136, E28_139, E28_140, E28_141, E28_142, E28_142i, E28_143, E28_146, E28_147, E28_148, E28_151, E28_152, E28_153, E28_154, E28_157, E28_160, E28_161, E28_162, E28_165, nI_leI, if_neg (show ¬ 64 ≤ i by omega), if_neg c1, pk_us, pk_un, if_neg e1, if_pos c2, nI_add]
        · refine ⟨s, a1, a2, ?_⟩
          rw [← a3]
          simp (disch := first | omega | exact id rfl | exact jd_i | exact jd_r | exact jd_n | exact jd_f | decide | (simp (disch := omega) only [jx_pas, Option.isSome_some])) only [jx_pas, Option.isSome_some, Option.getD_some, Option.toList_some, Option.toList_none, List.cons_append, List.nil_append, E28_0, E28_1, E28_2, E28_5, E28_6, E28_7, E28_10, E28_11, E28_12, E28_15, E28_16, E28_17, E28_20, E28_21, E28_22, E28_25, E28_26, E28_29, E28_30, E28_33, E28_34, E28_35, E28_36, E28_39, E28_40, E28_43, E28_44, E28_45, E28_46, E28_49, E28_52, E28_53, E28_56, E28_57, E28_60, E28_61, E28_62, E28_63, E28_63i, E28_64, E28_67, E28_68, E28_69, E28_72, E28_75, E28_76, E28_77, E28_80, E28_81, E28_83, E28_85, E28_88, E28_89, E28_92, E28_93, E28_94, E28_97, E28_98, E28_101, E28_104, E28_105, E28_106, E28_109, E28_110, E28_111, E28_114, E28_117, E28_120, E28_121, E28_122, E28_125, E28_128, E28_132, E28_135, E28_136, E28_139, E28_140, E28_141, E28_142, E28_142i, E28_143, E28_146, E28_147, E28_148, E28_151, E28_152, E28_153, E28_154, E28_157, E28_160, E28_161, E28_162, E28_165, nI_leI, if_neg (show ¬ 64 ≤ i by omega), if_neg c1, pk_us, pk_un, if_neg e1, if_neg c2, js_uu, nI_add]
          rfl
theorem js_B_drop {k c : Nat} (hB : jr_B I A) : jr_B I (jq_drop A k c) := jr_bA (jr_bA hB (fun b hb => by cases hb)) (fun b hb i => by
  unfold jq_sh
  split
  · exact hB.2 30 b hb _
  · exact hB.2 30 b hb _)
theorem js_drop29 {k c i : Nat} : jq_drop A k c 29 i = if k ≤ i ∧ i < c then A 29 (i + 1) else A 29 i := rfl
theorem js_drop30 {k c i : Nat} : jq_drop A k c 30 i = if k ≤ i ∧ i < c then A 30 (i + 1) else A 30 i := rfl
theorem js_begin (hT : js_T I A) (h32 : I 32 = nI 0) (h31 : ¬ I 31 ≤ 0) : ∃ I' A', jv_run (d + 2) 28 [.ref m] (jm_H m I A L rest z) = some (none, jm_H m I' A' L rest z) ∧ js_T I' A' ∧ I' 5 = I 5 := by
  obtain ⟨hB, n, J, F, S, E, q, w, hR, hP, hW⟩ := hT
  obtain ⟨h1, h2, h3, h4, h5, h6, h7, h8, h9, h10, h11, h12, h13, h14, h15⟩ := hR
  have hlen := jz_len hP
  have hkF : ∀ f k, F f = some k → k < 768 := fun f k e => by have := (hP.1 f k e).2; omega
  have hkS : ∀ f k, S f = some k → k < 768 := fun f k e => by have := (hP.2.1 f k e).2; omega
  cases w with
  | some b =>
    obtain ⟨b, f, s⟩ := b
    have := (h13 b f s rfl).1
    rw [h32] at this
    cases b <;> exact absurd this (by decide)
  | none =>
    cases q with
    | nil =>
      rw [h10] at h31
      exact absurd (show nI 0 ≤ 0 by decide) h31
    | cons b q =>
      obtain ⟨b, f⟩ := b
      obtain ⟨e29, e30⟩ := h11 0 b f rfl
      have hP' := hP
      obtain ⟨p1, p2, p3, p4, p5, p6, p7, p8, p9, p10⟩ := hP'
      obtain ⟨k, a3, r1, r2⟩ := p7 b f List.mem_cons_self
      have hf := (p1 f k a3).1
      have hk := hkF f k a3
      rw [List.length_cons] at hlen h10
      have e23 : A 23 f = nI k := by rw [h6 f (by omega), a3]; rfl
      have hdr : ∀ x : Int32, jv_run (d + 1) 26 [.ref m, .int (nI 0)] (jm_H m (upd (upd I 32 x) 33 (nI f)) A L rest z) = _ := fun x => jx_drop (d := d) (m := m) (I := upd (upd I 32 x) 33 (nI f)) (A := A) (L := L) (rest := rest) (z := z) (k := 0) (n := q.length) (Nat.zero_le _) (by omega) h10
      have q11 : ∀ i b' f', q[i]? = some (b', f') → jq_drop A 0 q.length 29 i = js_w b' ∧ jq_drop A 0 q.length 30 i = nI f' := fun i b' f' e => by
        have hi : i < q.length := by
          apply Classical.byContradiction
          intro hn
          rw [List.getElem?_eq_none (by omega)] at e
          cases e
        rw [js_drop29, js_drop30, if_pos ⟨Nat.zero_le _, hi⟩, if_pos ⟨Nat.zero_le _, hi⟩]
        exact h11 (i + 1) b' f' (by rw [List.getElem?_cons_succ]; exact e)
      have lk : ∀ (s : Nat) (g : Nat), jz_lk q (some (b, f, s)) g ↔ jz_lk ((b, f) :: q) none g := fun s g => by
        unfold jz_lk
        rw [List.map_cons, List.mem_cons]
        constructor
        · rintro (u | ⟨_, _, u⟩)
          · exact Or.inl (Or.inr u)
          · cases u; exact Or.inl (Or.inl rfl)
        · rintro ((u | u) | ⟨_, _, u⟩)
          · exact Or.inr ⟨b, s, by rw [u]⟩
          · exact Or.inl u
          · cases u
      have hWq : ∀ (s g k' : Nat), ((false, g) ∈ q ∨ ∃ s', some (b, f, s) = some (false, g, s')) → F g = some k' → A 18 (k' / 64) = nI 1 ∧ A 19 (k' / 64) = nI k' := fun s g k' hp e => hW g k' (Or.inl (by
        rcases hp with u | ⟨s', u⟩
        · exact List.mem_cons_of_mem _ u
        · cases u; exact List.mem_cons_self)) e
      cases b with
      | false =>
        obtain ⟨s0, e0⟩ := r2 rfl
        obtain ⟨s, es, hs, eS⟩ := js_fi_some (f := A 28) (G := S) (o := some k) (N := 64) h7 hkS (fun k' e => by cases e; exact hk) (p2 s0 k e0).1 e0
        have hrun : jv_run (d + 2) 28 [.ref m] (jm_H m I A L rest z) = some (none, jm_H m (upd (upd (upd (upd (upd (upd I 32 (nI 1)) 33 (nI f)) 31 (nI q.length)) 34 (nI s)) 38 (I 38 + nI 1)) 35 (jq_pas (I 36) (nI s) + nI 2)) (va_up (jq_drop A 0 q.length) 28 (upd (A 28) s (-1))) L rest z) := by
          have e29' : A 29 0 = nI 1 := e29
          have hso : jv_run (d + 1) 9 [.ref m, .int (nI k)] (jm_H m (upd (upd (upd I 32 (nI 1)) 33 (nI f)) 31 (nI q.length)) (jq_drop A 0 q.length) L rest z) = some (some (.int (nI s)), jm_H m (upd (upd (upd I 32 (nI 1)) 33 (nI f)) 31 (nI q.length)) (jq_drop A 0 q.length) L rest z) := by
            rw [jx_sectorOf]
            have : jq_fi (jq_drop A 0 q.length 28) (nI k) 0 64 = some s := es
            rw [this]
            rfl
          have dd23 : jq_drop A 0 q.length 23 f = nI k := e23
          have dd28 : jq_drop A 0 q.length 28 = A 28 := rfl
          rw [N28]
          simp (disch := first | omega | exact id rfl | exact jd_i | exact jd_r | exact jd_n | exact jd_f | decide | (simp (disch := omega) only [hdr, hso, jx_pas, Option.isSome_some])) only [hdr, hso, jx_pas, Option.isSome_some, Option.getD_some, Option.toList_some, Option.toList_none, List.cons_append, List.nil_append, E28_0, E28_1, E28_2, E28_5, E28_6, E28_7, E28_10, E28_11, E28_12, E28_15, E28_16, E28_17, E28_20, E28_21, E28_22, E28_25, E28_26, E28_29, E28_30, E28_33, E28_34, E28_35, E28_36, E28_39, E28_40, E28_43, E28_44, E28_45, E28_46, E28_49, E28_52, E28_53, E28_56, E28_57, E28_60, E28_61, E28_62, E28_63, E28_63i, E28_64, E28_67, E28_68, E28_69, E28_72, E28_75, E28_76, E28_77, E28_80, E28_81, E28_83, E28_85, E28_88, E28_89, E28_92, E28_93, E28_94, E28_97, E28_98, E28_101, E28_104, E28_105, E28_106, E28_109, E28_110, E28_111, E28_114, E28_117, E28_120, E28_121, E28_122, E28_125, E28_128, E28_132, E28_135, E28_136, E28_139, E28_140, E28_141, E28_142, E28_142i, E28_143, E28_146, E28_147, E28_148, E28_151, E28_152, E28_153, E28_154, E28_157, E28_160, E28_161, E28_162, E28_165, e29', e30, dd23, dd28, pk_us, pk_un, if_false, if_true, not_true_eq_false]
        refine ⟨_, _, hrun, ⟨jr_bI (jr_bI (jr_bI (js_bI31 (jr_bI (jr_bI (jr_bA (js_B_drop hB) (js_ub hB (fun b hb => by cases hb; rw [js_m1]; exact ⟨by decide, by decide⟩))) (fun b hb => by cases hb)) (fun b hb => by cases hb; exact jr_nb (lo := 0) (hi := 16) (by omega) (by omega) (by decide))) (by omega)) (fun b hb => by cases hb; exact ⟨by rw [nI_toInt (by omega)]; simp only; omega, by rw [nI_toInt (by omega)]; simp only; omega⟩)) (fun b hb => by cases hb)) (fun b hb => by cases hb), n, J, F, va_up S s none, E, q, some (false, f, s), ⟨h1, h2, h3, h4, h5, h6, fun t ht => ?_, h8, fun g hg => ⟨fun u => (h9 g hg).1 ((lk s g).mp u), fun u => (h9 g hg).2 (fun v => u ((lk s g).mpr v))⟩, rfl, q11, fun e => (by cases e), fun b' f' s' e => (by cases e; exact ⟨rfl, rfl, rfl⟩), h14, h15⟩, jz_beg_r hP a3 eS, hWq s⟩, rfl⟩
        show (if t = s then (-1 : Int32) else A 28 t) = _
        by_cases y : t = s
        · rw [if_pos y, y, jz_us]; rfl
        · rw [if_neg y, jz_un y]; exact h7 t ht
      | true =>
        obtain ⟨s0, hs0, es0⟩ := jz_P_free h5 hP a3 (r1 rfl)
        have hneg : ∀ p, p < 64 → (A 28 p < 0 ↔ S p = none) := fun p hp => by
          rw [h7 p hp, jq_o0 _ (fun k' e => by have := hkS p k' e; omega)]
        obtain ⟨s, hs, es, hloop⟩ := js_beg_l (d := d) (m := m) (I := upd (upd (upd I 32 (nI 2)) 33 (nI f)) 31 (nI q.length)) (A := jq_drop A 0 q.length) (L := L) (rest := rest) (z := z) (x := nI k) ⟨s0, hs0, (hneg s0 hs0).mpr es0⟩ 64 0 (by omega) none (fun s e => by cases e) (fun _ p hp => by omega)
        have eS : S s = none := (hneg s hs).mp es
        have hrun : jv_run (d + 2) 28 [.ref m] (jm_H m I A L rest z) = some (none, jm_H m (upd (upd (upd (upd (upd (upd I 32 (nI 2)) 33 (nI f)) 31 (nI q.length)) 34 (nI s)) 39 (I 39 + nI 1)) 35 (jq_pas (I 36) (nI s) + nI 2)) (va_up (jq_drop A 0 q.length) 28 (upd (A 28) s (nI k))) L rest z) := by
          have e29' : A 29 0 = nI 2 := e29
          have dd23 : jq_drop A 0 q.length 23 f = nI k := e23
          have dd28 : jq_drop A 0 q.length 28 = A 28 := rfl
          have n12 : ¬ nI 2 = nI 1 := by decide
          have hm1 : jq_o none = -1 := rfl
          rw [hm1] at hloop
          rw [N28]
          simp (disch := first | omega | exact id rfl | exact jd_i | exact jd_r | exact jd_n | exact jd_f | decide | (simp (disch := omega) only [hdr, jx_pas, Option.isSome_some])) only [hdr, jx_pas, Option.isSome_some, Option.getD_some, Option.toList_some, Option.toList_none, List.cons_append, List.nil_append, hloop, E28_0, E28_1, E28_2, E28_5, E28_6, E28_7, E28_10, E28_11, E28_12, E28_15, E28_16, E28_17, E28_20, E28_21, E28_22, E28_25, E28_26, E28_29, E28_30, E28_33, E28_34, E28_35, E28_36, E28_39, E28_40, E28_43, E28_44, E28_45, E28_46, E28_49, E28_52, E28_53, E28_56, E28_57, E28_60, E28_61, E28_62, E28_63, E28_63i, E28_64, E28_67, E28_68, E28_69, E28_72, E28_75, E28_76, E28_77, E28_80, E28_81, E28_83, E28_85, E28_88, E28_89, E28_92, E28_93, E28_94, E28_97, E28_98, E28_101, E28_104, E28_105, E28_106, E28_109, E28_110, E28_111, E28_114, E28_117, E28_120, E28_121, E28_122, E28_125, E28_128, E28_131, E28_132, E28_135, E28_136, E28_139, E28_140, E28_141, E28_142, E28_142i, E28_143, E28_146, E28_147, E28_148, E28_151, E28_152, E28_153, E28_154, E28_157, E28_160, E28_161, E28_162, E28_165, e29', e30, dd23, dd28, pk_us, pk_un, n12, if_false, if_true, not_true_eq_false, not_false_eq_true]
        refine ⟨_, _, hrun, ⟨jr_bI (jr_bI (jr_bI (js_bI31 (jr_bI (jr_bI (jr_bA (js_B_drop hB) (js_ub hB (fun b hb => by cases hb; exact ⟨by rw [nI_toInt (by omega)]; simp only; omega, by rw [nI_toInt (by omega)]; simp only; omega⟩))) (fun b hb => by cases hb)) (fun b hb => by cases hb; exact jr_nb (lo := 0) (hi := 16) (by omega) (by omega) (by decide))) (by omega)) (fun b hb => by cases hb; exact ⟨by rw [nI_toInt (by omega)]; simp only; omega, by rw [nI_toInt (by omega)]; simp only; omega⟩)) (fun b hb => by cases hb)) (fun b hb => by cases hb), n, J, F, va_up S s (some k), E, q, some (true, f, s), ⟨h1, h2, h3, h4, h5, h6, fun t ht => ?_, h8, fun g hg => ⟨fun u => (h9 g hg).1 ((lk s g).mp u), fun u => (h9 g hg).2 (fun v => u ((lk s g).mpr v))⟩, rfl, q11, fun e => (by cases e), fun b' f' s' e => (by cases e; exact ⟨rfl, rfl, rfl⟩), h14, h15⟩, jz_beg_w hP a3 eS hs, hWq s⟩, rfl⟩
        show (if t = s then nI k else A 28 t) = _
        by_cases y : t = s
        · rw [if_pos y, y, jz_us]; rfl
        · rw [if_neg y, jz_un y]; exact h7 t ht
end JS2
