/-! the law's loop and the claim -/
section JW4
variable {h : jv_H} {b0 s0 x m b N i : Nat} {xs : Nat → Int32}
theorem jl_exit (hi : i ≤ 5632) (hN : N < i + 11) (hS : jl_S b N xs x m b0 s0 h) : jv_ev (jv_run 8) 163 18 [some (.ref b), some (.ref x), some (.ref m), some (.int (nI i))] [] h = some (some (.int (nI 1)), h) := by
  have ln := jl_S_n hS
  have e : nI N - nI 11 < nI i := by
    refine Int32.lt_iff_toInt_lt.mpr ?_
    rw [pk_sub_toInt (by omega) (by decide), nI_toInt (by omega)]
    omega
  rw [E163_18]
  simp (disch := first | omega | exact id rfl | exact jd_i | exact jd_r | exact jd_n | decide | (simp (disch := first | omega | decide) only [ln, Option.isSome_some])) only [ln, Option.isSome_some, Option.getD_some, Option.toList_some, Option.toList_none, List.cons_append, List.nil_append, E163_19, E163_20, E163_21, E163_23, E163_24, E163_884, E163_885, if_pos e]
theorem jl_switch (hi : i + 11 ≤ N) (hN : N ≤ 5632) (hS : jl_S b N xs x m b0 s0 h) : ∃ h2, jv_ev (jv_run 8) 163 18 [some (.ref b), some (.ref x), some (.ref m), some (.int (nI i))] [] h = jv_ev (jv_run 8) 163 878 [some (.ref b), some (.ref x), some (.ref m), some (.int (nI i))] [] h2 ∧ jl_S b N xs x m b0 s0 h2 := by
  have M0 := jl_S_M hS
  have ln := jl_S_n hS
  have al0 : jv_al h b .int (nI i) = some (.int (xs i)) := M0.1 i (by omega) (by omega)
  have e : ¬ nI N - nI 11 < nI i := by
    rw [pk_sub (by omega), nI_ltI (by omega) (by omega)]
    omega
  rw [E163_18]
  simp (disch := first | omega | exact id rfl | exact jd_i | exact jd_r | exact jd_n | decide | (simp (disch := first | omega | decide) only [ln, al0, Option.isSome_some])) only [ln, al0, Option.isSome_some, Option.getD_some, Option.toList_some, Option.toList_none, List.cons_append, List.nil_append, E163_19, E163_20, E163_21, E163_23, E163_24, E163_27, E163_28, E163_29, E163_30, E163_32, if_neg e]
  rw [E163_33]
  by_cases k0 : xs i &&& nI 15 = nI 0
  · rw [if_pos k0]
    exact jl_k_frames hi hN hS
  rw [if_neg k0]
  by_cases k1 : xs i &&& nI 15 = nI 1
  · rw [if_pos k1]
    exact jl_k_words hi hN hS
  rw [if_neg k1]
  by_cases k2 : xs i &&& nI 15 = nI 2
  · rw [if_pos k2]
    exact jl_k_bytes hi hN hS
  rw [if_neg k2]
  by_cases k3 : xs i &&& nI 15 = nI 3
  · rw [if_pos k3]
    exact jl_k_job hi hN hS
  rw [if_neg k3]
  by_cases k4 : xs i &&& nI 15 = nI 4
  · rw [if_pos k4]
    exact jl_k_run hi hN hS
  rw [if_neg k4]
  by_cases k5 : xs i &&& nI 15 = nI 5
  · rw [if_pos k5]
    exact jl_k_ended hi hN hS
  rw [if_neg k5]
  by_cases k6 : xs i &&& nI 15 = nI 6
  · rw [if_pos k6]
    exact jl_k_done hi hN hS
  rw [if_neg k6]
  by_cases k7 : xs i &&& nI 15 = nI 7
  · rw [if_pos k7]
    exact jl_k_printed hi hN hS
  rw [if_neg k7]
  by_cases k8 : xs i &&& nI 15 = nI 8
  · rw [if_pos k8]
    exact jl_k_out hi hN hS
  rw [if_neg k8]
  by_cases k9 : xs i &&& nI 15 = nI 9
  · rw [if_pos k9]
    exact jl_k_register hi hN hS
  rw [if_neg k9]
  by_cases k10 : xs i &&& nI 15 = nI 10
  · rw [if_pos k10]
    exact jl_k_word hi hN hS
  rw [if_neg k10]
  by_cases k11 : xs i &&& nI 15 = nI 11
  · rw [if_pos k11]
    exact jl_k_clock hi hN hS
  rw [if_neg k11]
  by_cases k12 : xs i &&& nI 15 = nI 12
  · rw [if_pos k12]
    exact jl_k_told hi hN hS
  rw [if_neg k12]
  by_cases k13 : xs i &&& nI 15 = nI 13
  · rw [if_pos k13]
    exact jl_k_frame hi hN hS
  rw [if_neg k13]
  by_cases k14 : xs i &&& nI 15 = nI 14
  · rw [if_pos k14]
    exact jl_k_sector hi hN hS
  rw [if_neg k14]
  by_cases k15 : xs i &&& nI 15 = nI 15
  · rw [if_pos k15]
    exact jl_k_digest hi hN hS
  rw [if_neg k15]
  exact ⟨h, rfl, hS⟩
theorem jl_loop (hN : N ≤ 5632) : ∀ (t i : Nat) (h : jv_H), N - i ≤ t → i ≤ 5632 → jl_S b N xs x m b0 s0 h → ∃ h2, jv_ev (jv_run 8) 163 18 [some (.ref b), some (.ref x), some (.ref m), some (.int (nI i))] [] h = some (some (.int (nI 1)), h2) ∧ jl_S b N xs x m b0 s0 h2 := by
  intro t
  induction t with
  | zero =>
    intro i h ht hi hS
    exact ⟨h, jl_exit hi (by omega) hS, hS⟩
  | succ t IH =>
    intro i h ht hi hS
    by_cases c : N < i + 11
    · exact ⟨h, jl_exit hi c hS, hS⟩
    · obtain ⟨h2, e, hS2⟩ := jl_switch (i := i) (by omega) hN hS
      obtain ⟨h3, e3, hS3⟩ := IH (i + 11) h2 (by omega) (by omega) hS2
      refine ⟨h3, ?_, hS3⟩
      rw [e, ← e3]
      simp (disch := first | omega | exact id rfl | exact jd_i | exact jd_r | exact jd_n | decide) only [E163_878, E163_881, nI_add]
end JW4
def jl_f (b N : Nat) (xs : Nat → Int32) : Nat → Option jv_C := fun q => if q = b then some (.inr (jt_scr, N, fun j => .int (xs j))) else none
/-- a new reference -/
theorem jl_T0 : js_T jm_I0 (jm_A2 64) := by
  refine ⟨⟨fun k b hb => ?_, fun k b hb i => ?_⟩, 7, 0, fun _ => none, fun _ => none, fun _ => false, [], none, ⟨rfl, by decide, by decide, by decide, by decide, fun f hf => if_pos hf, fun s hs => if_pos hs, fun k hk => rfl, fun f hf => ⟨fun u => ?_, fun _ => rfl⟩, by decide, fun i b f e => ?_, fun _ => by decide, fun b f s e => (by cases e), ?_, Or.inl rfl⟩, ⟨fun f k e => (by cases e), fun f k e => (by cases e), fun f g k e => (by cases e), fun f g k e => (by cases e), fun k => ⟨fun e => (by cases e), fun e => ?_⟩, List.nodup_nil, fun b f e => (by cases e), fun b f s e => (by cases e), fun f s k e => (by cases e), ?_⟩, fun f k hp e => (by cases e)⟩
  · unfold jr_ib at hb
    split at hb <;> first | (cases hb; exact ⟨by decide, by decide⟩) | cases hb
  · have hA : ∀ k i, jm_A2 64 k i = 0 ∨ ((k = 23 ∨ k = 28) ∧ jm_A2 64 k i = -1) := fun k i => by
      unfold jm_A2 jm_A1 jm_A0 va_up
      split
      · simp only
        split
        · exact Or.inr ⟨by omega, rfl⟩
        · exact Or.inl rfl
      · split
        · simp only
          split
          · exact Or.inr ⟨by omega, rfl⟩
          · exact Or.inl rfl
        · exact Or.inl rfl
    have hz : (0 : Int32).toInt = 0 := by decide
    rcases hA k i with e | ⟨hk, e⟩
    · rw [e, hz]
      unfold jr_rb at hb
      split at hb <;> first | (cases hb; exact ⟨by decide, by decide⟩) | cases hb
    · rw [e, js_m1]
      rcases hk with rfl | rfl <;> (cases hb; exact ⟨by decide, by decide⟩)
  · rcases u with u | ⟨_, _, u⟩
    · cases u
    · cases u
  · simp at e
  · have : ∀ N, jz_cnt (fun _ => false) N = 0 := fun N => by
      induction N with
      | zero => rfl
      | succ N ih => unfold jz_cnt; rw [ih]; rfl
    rw [this]
    rfl
  · rcases e with ⟨_, e⟩ | ⟨_, e⟩ <;> cases e
  · have : ∀ N, jz_cnt (fun _ => false) N = 0 := fun N => by
      induction N with
      | zero => rfl
      | succ N ih => unfold jz_cnt; rw [ih]; rfl
    rw [this]
    omega
theorem jl_start {b N sz y : Nat} {xs : Nat → Int32} {z : Nat × Nat} (hb : b < sz) (hz : z.1 = sz + 10 + 27) : jl_S b N xs sz (sz + 10) z.1 z.2 (jm_H (sz + 10) jm_I0 (jm_A2 64) jm_L0 (jv_ups (jl_f b N xs) sz (jc_mach sz)) z) := by
  obtain ⟨g1, g2, g3⟩ := jo_init (x := sz) (y := y) (f := jl_f b N xs)
  have hs : ∀ a r, jo_ρ sz a = some r → (jm_H (sz + 10) jm_I0 (jm_A2 64) jm_L0 (jv_ups (jl_f b N xs) sz (jc_mach sz)) z).1 a = (jv_U (jl_f b N xs) sz (jc_mach sz) y).1 a := fun a r e => by
    obtain ⟨k, hk, rfl, _⟩ := jo_ρ_inv e
    exact jl_out (by omega)
  have hsz : (jv_U (jl_f b N xs) sz (jc_mach sz) y).2.1 = sz + 10 := rfl
  have hsy : (jv_U (jl_f b N xs) sz (jc_mach sz) y).2.2 = y := rfl
  refine ⟨jo_ρ sz, jm_I0, jm_A2 64, jm_L0, ⟨jl_I hs g1 (by rw [hsz]; show _ ≤ z.1; omega) (by rw [hsz]; show z.1 + _ ≤ _; omega) (by rw [hsy]; show z.2 + _ ≤ _; omega), jl_Ak hs g2, fun q hq => ?_, fun q c e => jl_inn e, jl_T0, ?_, by omega⟩, Or.inl ⟨0, jl_jo0 hs g1.1 g1.2.1 g3, by decide, by decide⟩⟩
  · refine ⟨jo_ρ_none (by omega), ?_⟩
    show q < z.1
    omega
  · rw [jl_out (by omega)]
    unfold jv_ups
    rw [if_pos hb]
    exact if_pos rfl
theorem jl_sum_le {c : Nat → Nat} : ∀ n, (∀ i, i < n → c i ≤ 64) → jg_sum c n ≤ 64 * n
  | 0, _ => Nat.le_refl _
  | n + 1, h => by
    have := jl_sum_le n (fun i hi => h i (by omega))
    have := h n (by omega)
    unfold jg_sum
    omega
theorem jl_room {b N x m b0 s0 : Nat} {xs : Nat → Int32} {h : jv_H} (hS : jl_S b N xs x m b0 s0 h) : h.2.1 ≤ b0 + 840 ∧ h.2.2 ≤ s0 + 51264 := by
  obtain ⟨ρ, I, A, L, hS0, _⟩ := hS
  obtain ⟨hO, hx, hn, n, js, c, hJ, r1, r2⟩ := hS0.1
  have hn12 := hJ.1
  have hc := jl_sum_le (c := c) (n + 0) (fun i hi => (hJ.2.2.1 i hi).2.2.1)
  constructor <;> omega
theorem jl_claim : jv_Claim 5632 := by
  intro b L xs sz hL hb
  have h0 : jv_h0 b L xs sz = jv_U (jl_f b L xs) sz [] 0 := by
    unfold jv_h0 jv_U jl_f
    rw [jv_ups_nil]
    rfl
  rw [h0]
  have hS := jl_start (N := L) (y := 0) (xs := xs) (z := (sz + 10 + 27, 0 + 12 + 4 + 3000 + 4 + 17 + 8 + 64 + 17 + 12 + 44 + 1000 + 2000 + 12 + 12 + 12 + 12 + 12 + 1536 + 12288 + 24000 + 12 + 12 + 4800 + 12 + 12 + 12 + 768 + 768 + 17 + 17 + 17 + 17 + 17 + 64 + 18 + 18)) hb rfl
  obtain ⟨h', e, hS'⟩ := jl_loop hL L 0 _ (by omega) (by omega) hS
  obtain ⟨q1, q2⟩ := jl_room hS'
  refine ⟨h', ?_, ?_, ?_⟩
  · rw [show jv_ent jt_law [.ref b] = [some (.ref b), none, none, none] from rfl]
    show jv_ev (jv_run 8) 163 0 _ _ _ = _
    rw [E163_0, jv_U_new, jv_U_sz, show (jt_dfl 6).length = 12 from rfl, List.nil_append, show sz + ([] : List jv_C).length = sz from rfl]
    have e1 := jx_Mach_init (d := 6) (f := jl_f b L xs) (b := sz) (y := 0 + 12)
    rw [E163_3, E163_4 rfl (by rw [e1]; rfl), e1]
    simp only [Option.getD_some, Option.toList_none, List.nil_append]
    rw [E163_7 jd_r, E163_8, jv_U_new, jv_U_sz, show (jt_dfl 0).length = 44 from rfl, show (jc_mach sz).length = 10 from rfl, jv_U_base, show (jc_mach sz).length = 10 from rfl]
    have e2 := jx_Model_init (d := 7) (f := jv_ups (jl_f b L xs) sz (jc_mach sz)) (m := sz + 10) (y := 0 + 12 + 4 + 3000 + 4 + 17 + 8 + 64 + 17 + 12 + 44)
    rw [E163_11, E163_12 rfl (by rw [e2]; rfl), e2]
    simp only [Option.getD_some, Option.toList_none, List.nil_append]
    rw [E163_15 jd_r, E163_16, E163_17 jd_r]
    exact e
  · refine Nat.le_trans q1 ?_
    show sz + 10 + 27 + 840 ≤ _
    omega
  · refine Nat.le_trans q2 ?_
    show 0 + 12 + 4 + 3000 + 4 + 17 + 8 + 64 + 17 + 12 + 44 + 1000 + 2000 + 12 + 12 + 12 + 12 + 12 + 1536 + 12288 + 24000 + 12 + 12 + 4800 + 12 + 12 + 12 + 768 + 768 + 17 + 17 + 17 + 17 + 17 + 64 + 18 + 18 + 51264 ≤ _
    omega
