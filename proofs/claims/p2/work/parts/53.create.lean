/-! a block is made -/
section JG
variable {ρ : jk_R} {h h' : jv_H} {d e0 b0 s0 x : Nat}
theorem jg_newU {ci : Nat} : jv_new h ci = jv_U h.1 h.2.1 [.inl (ci, jt_dfl ci)] (h.2.2 + (jt_dfl ci).length) := by
  unfold jv_new jv_U
  have e := jv_ups_push h.1 h.2.1 [] (.inl (ci, jt_dfl ci)) (k := 0) rfl
  rw [jv_ups_nil] at e
  rw [Nat.add_zero] at e
  rw [e]
  rfl
def jg_blk (a : Nat) (y : Int32) : jv_C := .inl (1, [.ref a, .int y, .int (-1), .int (-1), .int (nI 0), .int (nI 0), .int (nI 0), .int (nI 0), .int (-1), .int (-1)])
theorem jg_Block_init {f : Nat → Option jv_C} {b a z : Nat} {y : Int32} : jv_run (d + 1) 60 [.ref b, .ref a, .int y] (jv_U f b [.inl (1, jt_dfl 1)] z) = some (none, jv_U f b [jg_blk a y] z) := by
  rw [show jv_run (d + 1) 60 [.ref b, .ref a, .int y] (jv_U f b [.inl (1, jt_dfl 1)] z) = jv_ev (jv_run d) 60 0 [some (.ref b), some (.ref a), some (.int y)] [] (jv_U f b [.inl (1, jt_dfl 1)] z) from N60 (a0 := some a)]
  simp (disch := first | omega | exact id rfl | exact id (Nat.le_of_ble_eq_true rfl) | (simp (disch := first | exact id rfl | exact id (Nat.le_of_ble_eq_true rfl)) only [jv_U_pf0, Option.isSome_some])) only [E60_0, E60_1, E60_4, E60_5, E60_6, E60_9, E60_10, E60_11, E60_14, E60_15, E60_16, E60_19, E60_20, E60_21, E60_24, E60_25, E60_26, E60_29, E60_30, E60_31, E60_34, E60_35, E60_36, E60_39, E60_40, E60_41, E60_44, E60_45, E60_45r, E60_46, E60_49, E60_50, E60_51, E60_54, jv_U_pf0, Option.getD_some]
  rfl
/-- a new cell with a role -/
theorem jg_Ok_new {q : Nat} {d : jk_D} {c : jv_C} {z : Nat} (hO : jk_Ok jc_RT ρ h) (hn : ρ h.2.1 = none) (hd : jc_RT[q]? = some d) (hc : jk_C (va_up ρ h.2.1 (some q)) d c) : jk_Ok jc_RT (va_up ρ h.2.1 (some q)) (jv_up h.1 h.2.1 c, z, h.2.2 + 10) := by
  have grow : ∀ a r, ρ a = some r → va_up ρ h.2.1 (some q) a = some r := fun a r e => by
    rw [jz_un (fun x => by rw [x, hn] at e; cases e)]; exact e
  have hV : ∀ t v, jk_V ρ t v → jk_V (va_up ρ h.2.1 (some q)) t v := fun t v hv => by
    rcases t with a | a | a
    · exact hv
    · cases a <;> exact hv
    · rcases hv with hv | ⟨b, e, hb⟩
      · exact Or.inl hv
      · exact Or.inr ⟨b, e, grow b _ hb⟩
  have hVs : ∀ ts vs, jk_Vs ρ ts vs → jk_Vs (va_up ρ h.2.1 (some q)) ts vs := by
    intro ts
    induction ts with
    | nil =>
      intro vs hv
      cases vs with
      | nil => exact True.intro
      | cons v vs => exact hv.elim
    | cons t ts ih =>
      intro vs hv
      cases vs with
      | nil => exact hv.elim
      | cons v vs => exact ⟨hV t v hv.1, ih vs hv.2⟩
  intro a r e
  by_cases ha : a = h.2.1
  · rw [ha, jz_us] at e
    cases e
    exact ⟨d, c, hd, by rw [ha]; exact if_pos rfl, hc⟩
  · rw [jz_un ha] at e
    obtain ⟨d', c', g1, g2, g3⟩ := hO a r e
    refine ⟨d', c', g1, (if_neg ha).trans g2, ?_⟩
    rcases d' with ⟨ci, ts⟩ | ⟨kd, lo, t⟩ <;> rcases c' with ⟨ci', fs⟩ | ⟨kd', n, f⟩
    · exact ⟨g3.1, hVs _ _ g3.2⟩
    · exact g3.elim
    · exact g3.elim
    · exact ⟨g3.1, g3.2.1, g3.2.2.1, fun i => hV _ _ (g3.2.2.2 i)⟩
theorem jg_create {a k : Nat} (hI : jg_I e0 b0 s0 ρ h x) (ha : ρ a = some 4) (hE : jg_E h a) (hk : k < 64) (hB : jg_B h a k = some .null) : ∃ h', jv_run (d + 2) 150 [.ref x, .ref a, .int (nI k)] h = some (some (.ref h.2.1), h') ∧ jg_G e0 b0 s0 ρ h x (va_up ρ h.2.1 (some 5)) h' ∧ jk_Ok jc_RT (va_up ρ h.2.1 (some 5)) h' ∧ (∀ m, m < 64 → ¬ m = k → jg_B h' a m = jg_B h a m) ∧ ∀ m, jg_R h' x m = jg_R h x m := by
  obtain ⟨hO, hx, hf, n, js, c, hJ, r1, r2⟩ := hI
  have hnew : ρ h.2.1 = none := hf _ (Nat.le_refl _)
  have grow : ∀ b r, ρ b = some r → va_up ρ h.2.1 (some 5) b = some r := fun b r e => by
    rw [jz_un (fun y => by rw [y, hnew] at e; cases e)]; exact e
  have ne : ∀ b r, ρ b = some r → ¬ b = h.2.1 := fun b r e y => by rw [y, hnew] at e; cases e
  have e1 : jv_U h.1 h.2.1 [jg_blk a (nI k)] (h.2.2 + (jt_dfl 1).length) = (jv_up h.1 h.2.1 (jg_blk a (nI k)), h.2.1 + 1, h.2.2 + 10) := by
    have e := jv_ups_push h.1 h.2.1 [] (jg_blk a (nI k)) (k := 0) rfl
    rw [jv_ups_nil, Nat.add_zero] at e
    unfold jv_U
    rw [← List.nil_append [jg_blk a (nI k)], ← e]
    rfl
  have hO1 : jk_Ok jc_RT (va_up ρ h.2.1 (some 5)) (jv_up h.1 h.2.1 (jg_blk a (nI k)), h.2.1 + 1, h.2.2 + 10) := by
    refine jg_Ok_new (q := 5) hO hnew rfl ⟨rfl, ?_⟩
    have i0 : jk_V (va_up ρ h.2.1 (some 5)) (.inl (0, 1)) (.int (nI 0)) := ⟨_, rfl, by decide, by decide⟩
    exact ⟨Or.inr ⟨a, rfl, grow a 4 ha⟩, jk_V_top, jk_V_top, jk_V_top, i0, i0, jk_V_top, jk_V_top, jk_V_top, jk_V_top, True.intro⟩
  have hgf : ∀ b c m r, ρ b = some r → jv_gf (jv_up h.1 h.2.1 (jg_blk a (nI k)), h.2.1 + 1, h.2.2 + 10) b c m = jv_gf h b c m := fun b c m r e => by
    unfold jv_gf jv_up
    simp only
    rw [if_neg (ne b r e)]
  have hal : ∀ p ty j r, ρ p = some r → jv_al (jv_up h.1 h.2.1 (jg_blk a (nI k)), h.2.1 + 1, h.2.2 + 10) p ty j = jv_al h p ty j := fun p ty j r e => by
    unfold jv_al jv_up
    simp only
    rw [if_neg (ne p r e)]
  have hB1 : ∀ b m, ρ b = some 4 → jg_B (jv_up h.1 h.2.1 (jg_blk a (nI k)), h.2.1 + 1, h.2.2 + 10) b m = jg_B h b m := fun b m hb => by
    obtain ⟨p, e, hp⟩ := jg_ref (k := 6) hO hb rfl rfl
    unfold jg_B
    rw [hgf b 4 6 4 hb, e]
    exact hal p _ _ 14 hp
  have back : ∀ b, va_up ρ h.2.1 (some 5) b = some 4 → ρ b = some 4 := fun b e => by
    by_cases y : b = h.2.1
    · rw [y, jz_us] at e; cases e
    · rw [jz_un y] at e; exact e
  have hJ1 : jg_J (va_up ρ h.2.1 (some 5)) (jv_up h.1 h.2.1 (jg_blk a (nI k)), h.2.1 + 1, h.2.2 + 10) x (n + e0) n js c := by
    obtain ⟨h1, h2, h3, h4, h5, h6, h7⟩ := hJ
    refine ⟨h1, by rw [hgf x 6 4 0 hx]; exact h2, fun i hi => ?_, h4, fun b e => h5 b (back b e), fun b b' p pb pb' e e' => h6 b b' p (back b pb) (back b' pb') (by rw [← hgf b 4 6 4 (back b pb)]; exact e) (by rw [← hgf b' 4 6 4 (back b' pb')]; exact e'), fun b m b' pb hm e => ?_⟩
    · obtain ⟨a1, a2, a3, a4⟩ := h3 i hi
      refine ⟨grow _ _ a1, ?_, a3, fun e => ?_⟩
      · intro hm
        have a2 := a2 hm
        obtain ⟨p, e, hp⟩ := jg_ref (k := 3) hO hx rfl rfl
        unfold jg_R
        unfold jg_R at a2
        rw [hgf x 6 3 0 hx, e]
        rw [e] at a2
        simp only at a2 ⊢
        rw [hal p _ _ 11 hp]
        exact a2
      · have : jg_nn (jv_up h.1 h.2.1 (jg_blk a (nI k)), h.2.1 + 1, h.2.2 + 10) (js i) = jg_nn h (js i) := by
          unfold jg_nn
          congr 1
          funext m
          rw [hB1 (js i) m a1]
        rw [this]
        refine a4 ?_
        unfold jg_E at e ⊢
        rw [← hgf (js i) 4 12 4 a1]
        exact e
    · rw [hB1 b m (back b pb)] at e
      rw [hgf b' 1 0 5 (jg_Br hO (back b pb) e)]
      exact h7 b m b' (back b pb) hm e
  have hcl1 := jh_cl hO1 (grow a 4 ha) (q := 4) rfl
  obtain ⟨h2, f2, hO2, hz2, hn2, hg2, hB2, hB3, hal2⟩ := jg_set (d := d) (r := some h.2.1) hO1 (grow a 4 ha) hk (fun b e => by cases e; exact jz_us)
  /- the job's count -/
  obtain ⟨i, hi, hia⟩ := hJ.2.2.2.2.1 a ha
  have hc64 : c i + 1 ≤ jg_nn h2 a ∧ jg_nn h2 a ≤ 64 := by
    have q1 := (hJ.2.2.1 i hi).2.2.2 (by rw [hia]; exact hE)
    rw [hia] at q1
    have q2 : jg_nn h2 a = jg_nn h a + 1 := by
      unfold jg_nn
      rw [jg_nn_set hk hB2 hB3 64 (Nat.le_refl _)]
      have q3 : (fun m => jg_nb (jg_B (jv_up h.1 h.2.1 (jg_blk a (nI k)), h.2.1 + 1, h.2.2 + 10) a m)) = fun m => jg_nb (jg_B h a m) := by
        funext m
        rw [hB1 a m ha]
      rw [q3]
      exact jz_cnt_add hk (by simp only [hB]; decide)
    have q4 : ∀ (E : Nat → Bool) N, jz_cnt E N ≤ N := fun E N => by
      induction N with
      | zero => exact Nat.le_refl 0
      | succ N ih => unfold jz_cnt; split <;> omega
    exact ⟨by omega, q4 _ 64⟩
  have hown : jv_gf (jv_up h.1 h.2.1 (jg_blk a (nI k)), h.2.1 + 1, h.2.2 + 10) h.2.1 1 0 = some (.ref a) := by
    unfold jv_gf jv_up
    simp only [if_true]
    rfl
  have hJ2 := jg_Jf (c' := va_up c i (c i + 1)) hO1 (grow a 4 ha) hk hg2 hB2 hB3 hal2 (grow x 0 hx) hJ1 (fun b e => by cases e; exact hown) (fun j hj => by
    by_cases y : j = i
    · subst y
      rw [jz_us]
      exact ⟨by omega, fun _ _ => hc64.1, fun q => absurd hia q⟩
    · rw [jz_un y]
      refine ⟨(hJ.2.2.1 j hj).2.2.1, fun q => absurd (hJ.2.2.2.1 j i hj hi (q.trans hia.symm)) y, fun _ => rfl⟩)
  have hsum : jg_sum (va_up c i (c i + 1)) (n + e0) = jg_sum c (n + e0) + 1 := by
    have := jg_sum_up (c := c) (i := i) (v := c i + 1) (n + e0)
    simp only [hi, if_true] at this
    omega
  /- existing -/
  obtain ⟨w, e5, hw⟩ := jh_get (k := 6) hO2 (grow x 0 hx) rfl rfl
  obtain ⟨z, rfl, _⟩ := hw
  obtain ⟨h4, f4, hO4, hz4, hn4, _, hg4, ha4⟩ := jg_put (k := 6) (v := .int (z + nI 1)) hO2 (grow x 0 hx) rfl rfl jk_V_top rfl
  have G2 : jg_G e0 b0 s0 ρ h x (va_up ρ h.2.1 (some 5)) h2 := by
    refine ⟨⟨hO2, grow x 0 hx, fun q hq => ?_, n, js, _, hJ2, ?_, ?_⟩, ⟨grow, fun b hb e => ⟨?_, ?_⟩, ?_⟩, back, fun b hb => ?_, fun hA b hb e => ?_⟩
    · rw [hz2] at hq
      simp only at hq
      rw [jz_un (by omega)]
      exact hf q (by omega)
    · rw [hz2, hsum]
      simp only
      omega
    · rw [hz2, hsum]
      simp only
      omega
    · rw [jz_un (by omega)]; exact e
    · rw [hn2 b (by rw [jz_un (by omega)]; exact e)]
      exact if_neg (by omega)
    · rw [hz2]
      simp only
      omega
    · unfold jg_E
      rw [hg2, hgf b 4 12 4 hb]
    · have hb4 := back b hb
      rw [hg2, hgf b 4 13 4 hb4] at e
      have := hA b hb4 e
      unfold jg_E at this ⊢
      rw [hg2, hgf b 4 12 4 hb4]
      exact this
  refine ⟨h4, ?_, jg_G_tr G2 (jg_G_put G2.1 hO4 hz4 hn4 hg4 ha4 (by simp [jg_key]) (by simp)), hO4, fun m hm hmk => ?_, fun m => ?_⟩
  case refine_2 =>
    rw [← hB1 a m ha, ← hB3 m hm hmk]
    exact jg_Bc (fun b c m hm => hg4 b c m (fun q => by rcases hm with ⟨_, y⟩ | ⟨y, _⟩ | ⟨y, _⟩ <;> omega)) ha4
  case refine_3 =>
    obtain ⟨p, e, hp⟩ := jg_ref (k := 3) hO hx rfl rfl
    unfold jg_R
    rw [hg4 x 6 3 (by simp), hg2, hgf x 6 3 0 hx, e]
    simp only
    rw [ha4, hal2 p _ _ (fun e' => ?_)]
    · exact hal p _ _ 11 hp
    · obtain ⟨p', e2, hp'⟩ := jg_ref (k := 6) hO ha rfl rfl
      rw [hgf a 4 6 4 ha, e2] at e'
      cases e'
      rw [hp] at hp'
      cases hp'
  rw [show jv_run (d + 2) 150 [.ref x, .ref a, .int (nI k)] h = jv_ev (jv_run (d + 1)) 150 0 [some (.ref x), some (.ref a), some (.int (nI k)), none] [] h from N150 (a0 := some a)]
  have f1 : jv_run (d + 1) 60 [.ref h.2.1, .ref a, .int (nI k)] (jv_new h 1) = some (none, (jv_up h.1 h.2.1 (jg_blk a (nI k)), h.2.1 + 1, h.2.2 + 10)) := by
    rw [jg_newU, jg_Block_init, e1]
  have f2' : jv_run (d + 1) 96 [.ref a, .int (nI k), .ref h.2.1] (jv_up h.1 h.2.1 (jg_blk a (nI k)), h.2.1 + 1, h.2.2 + 10) = some (none, h2) := f2
  simp (disch := first | omega | exact id rfl | exact jd_i | exact jd_r | exact jd_n | exact jd_f | decide | (simp (disch := omega) only [f1, f2', f4, e5, hcl1, Option.isSome_some])) only [f1, f2', f4, e5, hcl1, Option.isSome_some, Option.getD_some, Option.toList_some, Option.toList_none, List.cons_append, List.nil_append, E150_0, E150_3, E150_3i, E150_4, E150_4r, E150_5, E150_6, E150_9, E150_9r, E150_10, E150_10r, E150_11, E150_12, E150_12r, E150_13, E150_16, E150_17, E150_17i, E150_18, E150_21, E150_22, E150_23, E150_26, E150_26r, E150_27, E150_27n, E150_27r]
end JG
