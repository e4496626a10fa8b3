/-! a job is taken -/
section JG
variable {ρ : jk_R} {h h' : jv_H} {d e0 b0 s0 x : Nat}
/-- roles of six new cells -/
def jn_ρ (ρ : jk_R) (b : Nat) : jk_R := fun q => if q < b then ρ q else match ([4, 12, 13, 14, 16, 15] : List Nat)[q - b]? with
  | some r => some r
  | none => ρ q
theorem jn_old {b q : Nat} (hq : q < b) : jn_ρ ρ b q = ρ q := if_pos hq
theorem jn_at {b k r : Nat} (hk : ([4, 12, 13, 14, 16, 15] : List Nat)[k]? = some r) : jn_ρ ρ b (b + k) = some r := by
  unfold jn_ρ
  rw [if_neg (by omega), Nat.add_sub_cancel_left, hk]
theorem jn_out {b q : Nat} (hq : b + 6 ≤ q) : jn_ρ ρ b q = ρ q := by
  unfold jn_ρ
  rw [if_neg (by omega), List.getElem?_eq_none (by simp; omega)]
theorem jk_V_grow {ρ' : jk_R} (hg : ∀ a r, ρ a = some r → ρ' a = some r) {t : jk_T} {v : Value} (hv : jk_V ρ t v) : jk_V ρ' t v := by
  rcases t with a | a | a
  · exact hv
  · cases a <;> exact hv
  · rcases hv with hv | ⟨b, e, hb⟩
    · exact Or.inl hv
    · exact Or.inr ⟨b, e, hg b _ hb⟩
theorem jk_Vs_grow {ρ' : jk_R} (hg : ∀ a r, ρ a = some r → ρ' a = some r) : ∀ {ts : List jk_T} {vs : List Value}, jk_Vs ρ ts vs → jk_Vs ρ' ts vs
  | [], [], _ => True.intro
  | [], _ :: _, hv => hv.elim
  | _ :: _, [], hv => hv.elim
  | _ :: _, _ :: _, hv => ⟨jk_V_grow hg hv.1, jk_Vs_grow hg hv.2⟩
theorem jk_C_grow {ρ' : jk_R} (hg : ∀ a r, ρ a = some r → ρ' a = some r) {dd : jk_D} {c : jv_C} (hc : jk_C ρ dd c) : jk_C ρ' dd c := by
  rcases dd with ⟨ci, ts⟩ | ⟨kd, lo, t⟩ <;> rcases c with ⟨ci', fs⟩ | ⟨kd', n, f⟩
  · exact ⟨hc.1, jk_Vs_grow hg hc.2⟩
  · exact hc.elim
  · exact hc.elim
  · exact ⟨hc.1, hc.2.1, hc.2.2.1, fun i => jk_V_grow hg (hc.2.2.2 i)⟩
/-- a new job, not yet taken -/
theorem jn_new {n : Nat} {nu li : Int32} {F G : Nat → Value} (hn : n ≤ 2000) (hF : ∀ j, ∃ v : Int64, F j = .long v) (hG : ∀ j, ∃ v : Int32, G j = .int v) (hI : jg_I 0 b0 s0 ρ h x) (hA : jg_A ρ h) (ht : ∃ m, m < 12 ∧ jv_gf h x 6 4 = some (.int (nI m))) : jg_I 1 b0 s0 (jn_ρ ρ h.2.1) (jv_U h.1 h.2.1 (ju_ct h.2.1 nu li F n G) (h.2.2 + 16 + 128 + 1024 + 64 + 400 + n)) x ∧ jg_A (jn_ρ ρ h.2.1) (jv_U h.1 h.2.1 (ju_ct h.2.1 nu li F n G) (h.2.2 + 16 + 128 + 1024 + 64 + 400 + n)) ∧ jg_X ρ h (jn_ρ ρ h.2.1) (jv_U h.1 h.2.1 (ju_ct h.2.1 nu li F n G) (h.2.2 + 16 + 128 + 1024 + 64 + 400 + n)) ∧ jg_E (jv_U h.1 h.2.1 (ju_ct h.2.1 nu li F n G) (h.2.2 + 16 + 128 + 1024 + 64 + 400 + n)) h.2.1 ∧ (∀ k, k < 64 → jg_B (jv_U h.1 h.2.1 (ju_ct h.2.1 nu li F n G) (h.2.2 + 16 + 128 + 1024 + 64 + 400 + n)) h.2.1 k = some .null) := by
  obtain ⟨hO, hx, hf, n0, js, c, hJ, r1, r2⟩ := hI
  rw [Nat.add_zero] at hJ r1 r2
  obtain ⟨m, hm, e0⟩ := ht
  have en : m = n0 := by
    have := hJ.2.1
    rw [e0] at this
    simp only [Option.some.injEq, Value.int.injEq] at this
    exact (nI_eq (by omega) (by have := hJ.1; omega)).mp this
  subst en
  have lt : ∀ a r, ρ a = some r → a < h.2.1 := fun a r e => Nat.lt_of_not_le (fun q => by rw [hf a q] at e; cases e)
  have grow : ∀ a r, ρ a = some r → jn_ρ ρ h.2.1 a = some r := fun a r e => by rw [jn_old (lt a r e)]; exact e
  have gf : ∀ a c k, a < h.2.1 → jv_gf (jv_U h.1 h.2.1 (ju_ct h.2.1 nu li F n G) (h.2.2 + 16 + 128 + 1024 + 64 + 400 + n)) a c k = jv_gf h a c k := fun a c k ha => ju_gfo (z := h.2) ha
  have al : ∀ a ty j, a < h.2.1 → jv_al (jv_U h.1 h.2.1 (ju_ct h.2.1 nu li F n G) (h.2.2 + 16 + 128 + 1024 + 64 + 400 + n)) a ty j = jv_al h a ty j := fun a ty j ha => ju_alo (z := h.2) ha
  have cases6 : ∀ a r, jn_ρ ρ h.2.1 a = some r → (a < h.2.1 ∧ ρ a = some r) ∨ ∃ k, k < 6 ∧ a = h.2.1 + k ∧ ([4, 12, 13, 14, 16, 15] : List Nat)[k]? = some r := fun a r e => by
    by_cases q : a < h.2.1
    · rw [jn_old q] at e; exact Or.inl ⟨q, e⟩
    · by_cases q2 : h.2.1 + 6 ≤ a
      · rw [jn_out q2, hf a (by omega)] at e; cases e
      · refine Or.inr ⟨a - h.2.1, by omega, by omega, ?_⟩
        have e2 : a = h.2.1 + (a - h.2.1) := by omega
        rw [e2] at e
        unfold jn_ρ at e
        rw [if_neg (by omega), Nat.add_sub_cancel_left] at e
        have hl : a - h.2.1 < ([4, 12, 13, 14, 16, 15] : List Nat).length := by simp; omega
        rw [List.getElem?_eq_getElem hl] at e ⊢
        exact e
  have only4 : ∀ a, jn_ρ ρ h.2.1 a = some 4 → (a < h.2.1 ∧ ρ a = some 4) ∨ a = h.2.1 := fun a e => by
    rcases cases6 a 4 e with q | ⟨k, hk, rfl, q⟩
    · exact Or.inl q
    · have : k = 0 := by
        rcases k with _ | _ | _ | _ | _ | _ | k
        · rfl
        · cases q
        · cases q
        · cases q
        · cases q
        · cases q
        · omega
      subst this
      exact Or.inr rfl
  have j0 : jn_ρ ρ h.2.1 h.2.1 = some 4 := jn_at (k := 0) rfl
  have hgf0 : ∀ k v, ([.int nu, .int li, .long 0, .ref (h.2.1 + 1), .int (nI 0), .ref (h.2.1 + 2), .ref (h.2.1 + 3), .ref (h.2.1 + 5), .int (nI 0), .ref (h.2.1 + 4), .int (nI 0), .int (nI 0), .int (nI 0), .int (nI 0), .null, .int (nI 0)] : List Value)[k]? = some v → jv_gf (jv_U h.1 h.2.1 (ju_ct h.2.1 nu li F n G) (h.2.2 + 16 + 128 + 1024 + 64 + 400 + n)) h.2.1 4 k = some v := fun k v e => ju_gf (k := 0) rfl e
  have hB0 : ∀ k, k < 64 → jg_B (jv_U h.1 h.2.1 (ju_ct h.2.1 nu li F n G) (h.2.2 + 16 + 128 + 1024 + 64 + 400 + n)) h.2.1 k = some .null := fun k hk => by
    unfold jg_B
    rw [hgf0 6 _ rfl]
    exact jv_al_of (k := 3) (n := 64) (f := fun _ => .null) (jv_ups_at (k := 3) rfl) rfl hk (by decide)
  have hBo : ∀ a k, ρ a = some 4 → jg_B (jv_U h.1 h.2.1 (ju_ct h.2.1 nu li F n G) (h.2.2 + 16 + 128 + 1024 + 64 + 400 + n)) a k = jg_B h a k := fun a k ha => by
    obtain ⟨p, e, hp⟩ := jg_ref (k := 6) hO ha rfl rfl
    unfold jg_B
    rw [gf a 4 6 (lt a 4 ha), e]
    exact al p _ _ (lt p 14 hp)
  have hO' : jk_Ok jc_RT (jn_ρ ρ h.2.1) (jv_U h.1 h.2.1 (ju_ct h.2.1 nu li F n G) (h.2.2 + 16 + 128 + 1024 + 64 + 400 + n)) := by
    intro a r e
    rcases cases6 a r e with ⟨q, e⟩ | ⟨k, hk, rfl, q⟩
    · obtain ⟨dd, cc, g1, g2, g3⟩ := hO a r e
      exact ⟨dd, cc, g1, (ju_old q).trans g2, jk_C_grow grow g3⟩
    · have i0 : jk_V (jn_ρ ρ h.2.1) (.inl (0, 1)) (.int (nI 0)) := ⟨_, rfl, by decide, by decide⟩
      rcases k with _ | _ | _ | _ | _ | _ | k
      · cases q
        exact ⟨_, _, rfl, jv_ups_at (k := 0) rfl, rfl, jk_V_top, jk_V_top, ⟨_, rfl⟩, Or.inr ⟨_, rfl, jn_at (k := 1) rfl⟩, jk_V_top, Or.inr ⟨_, rfl, jn_at (k := 2) rfl⟩, Or.inr ⟨_, rfl, jn_at (k := 3) rfl⟩, Or.inr ⟨_, rfl, jn_at (k := 5) rfl⟩, jk_V_top, Or.inr ⟨_, rfl, jn_at (k := 4) rfl⟩, jk_V_top, jk_V_top, jk_V_top, i0, Or.inl ⟨rfl, rfl⟩, i0, True.intro⟩
      · cases q
        exact ⟨_, _, rfl, jv_ups_at (k := 1) rfl, rfl, Nat.le_refl _, by decide, fun i => jk_V_top⟩
      · cases q
        exact ⟨_, _, rfl, jv_ups_at (k := 2) rfl, rfl, Nat.le_refl _, by decide, fun i => hF i⟩
      · cases q
        exact ⟨_, _, rfl, jv_ups_at (k := 3) rfl, rfl, Nat.le_refl _, by decide, fun i => Or.inl ⟨rfl, rfl⟩⟩
      · cases q
        exact ⟨_, _, rfl, jv_ups_at (k := 4) rfl, rfl, Nat.le_refl _, by decide, fun i => jk_V_top⟩
      · cases q
        refine ⟨_, _, rfl, jv_ups_at (k := 5) rfl, rfl, Nat.zero_le _, by omega, fun i => ?_⟩
        obtain ⟨v, e⟩ := hG i
        rw [e]
        exact jk_V_top
      · omega
  have sz : (jv_U h.1 h.2.1 (ju_ct h.2.1 nu li F n G) (h.2.2 + 16 + 128 + 1024 + 64 + 400 + n)).2.1 = h.2.1 + 6 := rfl
  have sy : (jv_U h.1 h.2.1 (ju_ct h.2.1 nu li F n G) (h.2.2 + 16 + 128 + 1024 + 64 + 400 + n)).2.2 = h.2.2 + 16 + 128 + 1024 + 64 + 400 + n := rfl
  have sumc : jg_sum (va_up c m 0) (m + 1) = jg_sum c m := by
    have q := jg_sum_up (c := c) (i := m) (v := 0) m
    have a1 : ¬ m < m := by omega
    simp only [a1, if_false] at q
    show jg_sum (va_up c m 0) m + va_up c m 0 m = jg_sum c m
    rw [jz_us]
    omega
  have ltx := lt x 0 hx
  refine ⟨⟨hO', grow x 0 hx, fun q hq => ?_, m, va_up js m h.2.1, va_up c m 0, ?_, ?_, ?_⟩, fun a ha e => ?_, ⟨grow, fun a ha e => ⟨by rw [jn_old ha]; exact e, ju_old ha⟩, by rw [sz]; omega⟩, hgf0 12 _ rfl, hB0⟩
  · rw [sz] at hq
    rw [jn_out hq]
    exact hf q (by omega)
  · obtain ⟨h1, h2, h3, h4, h5, h6, h7⟩ := hJ
    refine ⟨by omega, by rw [gf x 6 4 ltx]; exact h2, fun i hi => ?_, fun i j hi hj e => ?_, fun a e => ?_, fun a b p pa pb e e' => ?_, fun a k b pa hk e => ?_⟩
    · by_cases q : i = m
      · subst q
        rw [jz_us, jz_us]
        exact ⟨j0, fun z => by omega, by omega, fun _ => Nat.zero_le _⟩
      · rw [jz_un q, jz_un q]
        obtain ⟨a1, a2, a3, a4⟩ := h3 i (by omega)
        refine ⟨grow _ _ a1, fun z => ?_, a3, fun e => ?_⟩
        · have a2 := a2 z
          obtain ⟨p, e, hp⟩ := jg_ref (k := 3) hO hx rfl rfl
          unfold jg_R at a2 ⊢
          rw [gf x 6 3 ltx, e]
          rw [e] at a2
          simp only at a2 ⊢
          rw [al p _ _ (lt p 11 hp)]
          exact a2
        · have : jg_nn (jv_U h.1 h.2.1 (ju_ct h.2.1 nu li F n G) (h.2.2 + 16 + 128 + 1024 + 64 + 400 + n)) (js i) = jg_nn h (js i) := by
            unfold jg_nn
            congr 1
            funext k
            rw [hBo (js i) k a1]
          rw [this]
          refine a4 ?_
          unfold jg_E at e ⊢
          rw [gf _ _ _ (lt _ 4 a1)] at e
          exact e
    · have key : ∀ i, i < m → js i < h.2.1 := fun i hi => lt _ 4 (h3 i hi).1
      by_cases q : i = m <;> by_cases q' : j = m
      · omega
      · rw [q, jz_us, jz_un q'] at e
        have := key j (by omega)
        omega
      · rw [q', jz_us, jz_un q] at e
        have := key i (by omega)
        omega
      · rw [jz_un q, jz_un q'] at e
        exact h4 i j (by omega) (by omega) e
    · rcases only4 a e with ⟨_, e⟩ | rfl
      · obtain ⟨i, hi, ei⟩ := h5 a e
        exact ⟨i, by omega, by rw [jz_un (by omega)]; exact ei⟩
      · exact ⟨m, by omega, jz_us⟩
    · have pold : ∀ a p, ρ a = some 4 → jv_gf h a 4 6 = some (.ref p) → p < h.2.1 := fun a p ha e => by
        obtain ⟨p', e2, hp⟩ := jg_ref (k := 6) hO ha rfl rfl
        rw [e] at e2
        cases e2
        exact lt p 14 hp
      rcases only4 a pa with ⟨qa, pa⟩ | rfl <;> rcases only4 b pb with ⟨qb, pb⟩ | rfl
      · rw [gf _ _ _ qa] at e
        rw [gf _ _ _ qb] at e'
        exact h6 a b p pa pb e e'
      · rw [gf _ _ _ qa] at e
        rw [hgf0 6 _ rfl] at e'
        cases e'
        exact absurd (pold a _ pa e) (Nat.not_lt.mpr (Nat.le_add_right _ _))
      · rw [gf _ _ _ qb] at e'
        rw [hgf0 6 _ rfl] at e
        cases e
        exact absurd (pold b _ pb e') (Nat.not_lt.mpr (Nat.le_add_right _ _))
      · rfl
    · rcases only4 a pa with ⟨qa, pa⟩ | rfl
      · rw [hBo a k pa] at e
        rw [gf _ _ _ (lt b 5 (jg_Br hO pa e))]
        exact h7 a k b pa hk e
      · rw [hB0 k hk] at e
        cases e
  · rw [sz, sumc]
    omega
  · rw [sy, sumc]
    omega
  · rcases only4 a ha with ⟨qa, pa⟩ | rfl
    · rw [gf _ _ _ qa] at e
      have := hA a pa e
      unfold jg_E at this ⊢
      rw [gf _ _ _ qa]
      exact this
    · exact absurd (hgf0 13 _ rfl) e
end JG
