/-! the law's start, and its switch -/
section JW2
variable {b x N : Nat} {xs : Nat → Int32} {z : Nat × Nat}
theorem jl_head (hb : b < x) (hN : N ≤ 11) : ∃ h', jv_ev (jv_run 8) 163 18 [some (.ref b), some (.ref x), some (.ref (x + 10)), some (.int (nI 0))] [] (jp_H x (jl_f b N xs) (jp_M x (nI 0) (nI 0) (fun _ => 0) (fun _ => 0)) jm_I0 (jm_A2 64) jm_L0 z) = some (some (.int (nI 1)), h') ∧ h'.2 = z := by
  by_cases h : N < 11
  · exact ⟨_, jl_out (i := 0) hb (by omega) (by decide), rfl⟩
  have hN' : N = 11 := by omega
  have e : ¬ nI N - nI 11 < nI 0 := by
    rw [hN']
    decide
  unfold jp_H
  rw [E163_18]
  simp (disch := first | omega | exact id rfl | exact jd_i | exact jd_r | exact jd_n | decide | (simp (disch := first | omega | decide) only [jl_ln hb, jl_al hb, Option.isSome_some])) only [jl_ln hb, jl_al hb, if_neg e, Option.isSome_some, Option.getD_some, Option.toList_some, Option.toList_none, List.cons_append, List.nil_append, E163_19, E163_19r, E163_20, E163_21, E163_23, E163_24, E163_27, E163_27r, E163_28, E163_29, E163_30, E163_32]
  rw [E163_33]
  by_cases h0 : xs 0 &&& nI 15 = nI 0
  · rw [if_pos h0]
    exact jl_c_frames hb hN'
  rw [if_neg h0]
  by_cases h1 : xs 0 &&& nI 15 = nI 1
  · rw [if_pos h1]
    exact jl_c_words hb hN'
  rw [if_neg h1]
  by_cases h2 : xs 0 &&& nI 15 = nI 2
  · rw [if_pos h2]
    exact jl_c_bytes hb hN'
  rw [if_neg h2]
  by_cases h3 : xs 0 &&& nI 15 = nI 3
  · rw [if_pos h3]
    exact jl_c_job hb hN'
  rw [if_neg h3]
  by_cases h4 : xs 0 &&& nI 15 = nI 4
  · rw [if_pos h4]
    exact jl_c_run hb hN'
  rw [if_neg h4]
  by_cases h5 : xs 0 &&& nI 15 = nI 5
  · rw [if_pos h5]
    exact jl_c_ended hb hN'
  rw [if_neg h5]
  by_cases h6 : xs 0 &&& nI 15 = nI 6
  · rw [if_pos h6]
    exact jl_c_done hb hN'
  rw [if_neg h6]
  by_cases h7 : xs 0 &&& nI 15 = nI 7
  · rw [if_pos h7]
    exact jl_c_printed hb hN'
  rw [if_neg h7]
  by_cases h8 : xs 0 &&& nI 15 = nI 8
  · rw [if_pos h8]
    exact jl_c_out hb hN'
  rw [if_neg h8]
  by_cases h9 : xs 0 &&& nI 15 = nI 9
  · rw [if_pos h9]
    exact jl_c_register hb hN'
  rw [if_neg h9]
  by_cases h10 : xs 0 &&& nI 15 = nI 10
  · rw [if_pos h10]
    exact jl_c_word hb hN'
  rw [if_neg h10]
  by_cases h11 : xs 0 &&& nI 15 = nI 11
  · rw [if_pos h11]
    exact jl_c_clock hb hN'
  rw [if_neg h11]
  by_cases h12 : xs 0 &&& nI 15 = nI 12
  · rw [if_pos h12]
    exact jl_c_told hb hN'
  rw [if_neg h12]
  by_cases h13 : xs 0 &&& nI 15 = nI 13
  · rw [if_pos h13]
    exact jl_c_frame hb hN'
  rw [if_neg h13]
  by_cases h14 : xs 0 &&& nI 15 = nI 14
  · rw [if_pos h14]
    exact jl_c_sector hb hN'
  rw [if_neg h14]
  by_cases h15 : xs 0 &&& nI 15 = nI 15
  · rw [if_pos h15]
    exact jl_c_digest hb hN'
  rw [if_neg h15]
  exact ⟨_, jl_next hb hN', rfl⟩
end JW2
theorem jl_claim : jv_Claim 11 := by
  intro b L xs sz hL hb
  have h0 : jv_h0 b L xs sz = jv_U (jl_f b L xs) sz [] 0 := by
    unfold jv_h0 jv_U jl_f
    rw [jv_ups_nil]
    rfl
  rw [h0]
  obtain ⟨h', e, hz⟩ := jl_head (x := sz) (N := L) (xs := xs) (z := (sz + 10 + 27, 0 + 12 + 4 + 3000 + 4 + 17 + 8 + 64 + 17 + 12 + 44 + 1000 + 2000 + 12 + 12 + 12 + 12 + 12 + 1536 + 12288 + 24000 + 12 + 12 + 4800 + 12 + 12 + 12 + 768 + 768 + 17 + 17 + 17 + 17 + 17 + 64 + 18 + 18)) hb hL
  refine ⟨h', ?_, ?_, ?_⟩
  · rw [show jv_ent jt_law [.ref b] = [some (.ref b), none, none, none] from rfl]
    show jv_ev (jv_run 8) 163 0 _ _ _ = _
    rw [E163_0, jv_U_new, jv_U_sz, show (jt_dfl 6).length = 12 from rfl, List.nil_append, show sz + ([] : List jv_C).length = sz from rfl]
    have e1 := jx_Mach_init (d := 6) (f := jl_f b L xs) (b := sz) (y := 0 + 12)
    rw [E163_3, E163_4 rfl (by rw [e1]; rfl), e1]
    simp only [Option.getD_some, Option.toList_none, List.nil_append]
    rw [E163_7 jd_r, E163_8, jv_U_new, jv_U_sz, show (jt_dfl 0).length = 44 from rfl, show (jc_mach sz).length = 10 from rfl, jv_U_base, show (jc_mach sz).length = 10 from rfl]
    have e2 := jx_Model_init (d := 7) (f := jv_ups (jl_f b L xs) sz (jc_mach sz)) (m := sz + 10) (y := 0 + 12 + 4 + 3000 + 4 + 17 + 8 + 64 + 17 + 12 + 44)
    rw [E163_11, E163_12 rfl (by rw [e2]; rfl), e2]
    simp only [Option.getD_some, Option.toList_none, List.nil_append]
    rw [E163_15 jd_r, E163_16, E163_17 jd_r]
    exact e
  · rw [hz]; show sz + 10 + 27 ≤ _; omega
  · rw [hz]; exact Nat.le_of_ble_eq_true rfl
