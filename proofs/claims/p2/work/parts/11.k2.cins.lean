/-! the checker's step holds for every instruction -/
section JK
variable {RT : List jk_D} {pr : Nat → Nat → Bool} {sg : jk_G} {rt : Option jk_T} {ρ : jk_R} {M n pc : Nat} {l0 ls : jv_L} {al : jk_AL} {as : jk_AS} {st : List Value} {h : jv_H} {call : jv_F} {su : List jk_A} {v : Value}
def jk_Nx (RT : List jk_D) (pr : Nat → Nat → Bool) (rt : Option jk_T) (ρ : jk_R) (l0 : jv_L) (h : jv_H) (su : List jk_A) (o : Option (jv_S ⊕ jv_Z)) : Prop :=
  (∃ pc' ls' st' h' al' as', o = some (.inl (pc', ls', st', h')) ∧ (pc', al', as') ∈ su ∧ jk_Ok RT ρ h' ∧ jk_Fr pr ρ h h' ∧ jk_L ρ l0 al' ls' ∧ jk_S ρ ls' as' st') ∨ ∃ r, o = some (.inr (r, h)) ∧ jk_Rt ρ rt r
theorem jk_one {ls' : jv_L} {al' : jk_AL} {as' : jk_AS} {st' : List Value} {h' : jv_H} {pc' : Nat} (hm : (pc', al', as') ∈ su) (hL : jk_L ρ l0 al' ls') (hS : jk_S ρ ls' as' st') (hO : jk_Ok RT ρ h') (hF : jk_Fr pr ρ h h') : jk_Nx RT pr rt ρ l0 h su (jv_n pc' ls' st' h') := Or.inl ⟨pc', ls', st', h', al', as', rfl, hm, hO, hF, hL, hS⟩
theorem jk_ps_ok {k : Nat} {t : jk_T} {s : Option Nat} (hs : jk_ps n k pc al as t s = some su) (hv : jk_V ρ t v) (hsrc : ∀ i, s = some i → ls[i]? = some (some v)) (hL : jk_L ρ l0 al ls) (hS : jk_S ρ ls as st) (hO : jk_Ok RT ρ h) : jk_Nx RT pr rt ρ l0 h su (jv_len n k (jv_n (pc + k) ls (v :: st) h)) := by
  unfold jk_ps at hs
  split at hs
  · rename_i hn
    cases hs
    rw [jk_len (eq_of_beq hn)]
    exact jk_one (List.mem_singleton.mpr rfl) hL ⟨hv, hsrc, hS⟩ hO (jk_Fr_rf h)
  · cases hs
theorem jk_ld_inv {w k i : Nat} (hs : jk_ld w n k pc al i as = some su) (hL : jk_L ρ l0 al ls) : ∃ t v, jk_kd t = w ∧ ls[i]? = some (some v) ∧ jk_V ρ t v ∧ jk_ps n k pc al as t (some i) = some su := by
  unfold jk_ld at hs
  split at hs
  · rename_i t δ e
    split at hs
    · rename_i hk
      obtain ⟨v, e1, hv, _⟩ := hL.2 i t δ e
      exact ⟨t, v, eq_of_beq hk, e1, hv, hs⟩
    · cases hs
  · cases hs
theorem jk_kd0 {t : jk_T} (hk : jk_kd t = 0) (hv : jk_V ρ t v) : ∃ X : Int × Int, ∃ x : Int32, t = .inl X ∧ v = .int x ∧ X.1 ≤ x.toInt ∧ x.toInt ≤ X.2 := by
  rcases t with a | a | a
  · obtain ⟨x, e, h1, h2⟩ := hv
    exact ⟨a, x, rfl, e, h1, h2⟩
  · cases a <;> cases hk
  · cases hk
theorem jk_kd1 {t : jk_T} (hk : jk_kd t = 1) (hv : jk_V ρ t v) : ∃ x : Int64, t = jk_lg ∧ v = .long x := by
  rcases t with a | a | a
  · cases hk
  · cases a
    · cases hk
    · obtain ⟨x, e⟩ := hv
      exact ⟨x, rfl, e⟩
  · cases hk
theorem jk_kd2 {t : jk_T} (hk : jk_kd t = 2) (hv : jk_V ρ t v) : v = .null ∨ ∃ a, v = .ref a := by
  rcases t with a | a | a
  · cases hk
  · cases a
    · exact Or.inl hv
    · cases hk
  · rcases hv with ⟨_, e⟩ | ⟨q, e, _⟩
    · exact Or.inl e
    · exact Or.inr ⟨q, e⟩
theorem jk_ldi_ok {k i : Nat} (hs : jk_ld 0 n k pc al i as = some su) (hL : jk_L ρ l0 al ls) (hS : jk_S ρ ls as st) (hO : jk_Ok RT ρ h) : jk_Nx RT pr rt ρ l0 h su (jv_ldi n k pc ls i st h) := by
  obtain ⟨t, v, hk, e1, hv, hp⟩ := jk_ld_inv hs hL
  obtain ⟨X, x, rfl, rfl, _⟩ := jk_kd0 hk hv
  unfold jv_ldi
  rw [e1]
  exact jk_ps_ok hp hv (fun j hj => by cases hj; exact e1) hL hS hO
theorem jk_ldl_ok {k i : Nat} (hs : jk_ld 1 n k pc al i as = some su) (hL : jk_L ρ l0 al ls) (hS : jk_S ρ ls as st) (hO : jk_Ok RT ρ h) : jk_Nx RT pr rt ρ l0 h su (jv_ldl n k pc ls i st h) := by
  obtain ⟨t, v, hk, e1, hv, hp⟩ := jk_ld_inv hs hL
  obtain ⟨x, rfl, rfl⟩ := jk_kd1 hk hv
  unfold jv_ldl
  rw [e1]
  exact jk_ps_ok hp hv (fun j hj => by cases hj; exact e1) hL hS hO
theorem jk_lda_ok {k i : Nat} (hs : jk_ld 2 n k pc al i as = some su) (hL : jk_L ρ l0 al ls) (hS : jk_S ρ ls as st) (hO : jk_Ok RT ρ h) : jk_Nx RT pr rt ρ l0 h su (jv_lda n k pc ls i st h) := by
  obtain ⟨t, v, hk, e1, hv, hp⟩ := jk_ld_inv hs hL
  unfold jv_lda
  rcases jk_kd2 hk hv with rfl | ⟨a, rfl⟩
  · rw [e1]
    exact jk_ps_ok hp hv (fun j hj => by cases hj; exact e1) hL hS hO
  · rw [e1]
    exact jk_ps_ok hp hv (fun j hj => by cases hj; exact e1) hL hS hO
theorem jk_so_inv {w k i : Nat} (hs : jk_so w n k pc al i as = some su) (hL : jk_L ρ l0 al ls) (hS : jk_S ρ ls as st) : ∃ t v vs al' as', st = v :: vs ∧ jk_kd t = w ∧ jk_V ρ t v ∧ n = k ∧ i < ls.length ∧ su = [(pc + k, al', as')] ∧ jk_L ρ l0 al' (jv_st1 ls i v) ∧ jk_S ρ (jv_st1 ls i v) as' vs := by
  unfold jk_so at hs
  split at hs
  · rename_i t s as'
    split at hs
    · rename_i hb
      simp only [Bool.and_eq_true, beq_iff_eq, decide_eq_true_eq] at hb
      cases hs
      obtain ⟨v, vs, rfl, hv, _, hS'⟩ := jk_S_cons hS
      refine ⟨t, v, vs, _, _, rfl, hb.1.1, hv, hb.2, by rw [hL.1]; exact hb.1.2, rfl, ?_, jk_S_ns hS'⟩
      exact jk_set (jk_kl_ok hL i) (by rw [jk_kl_len]; exact hb.1.2) hv (fun d e => by cases e)
    · cases hs
  · cases hs
theorem jk_sti_ok {k i : Nat} (hs : jk_so 0 n k pc al i as = some su) (hL : jk_L ρ l0 al ls) (hS : jk_S ρ ls as st) (hO : jk_Ok RT ρ h) : jk_Nx RT pr rt ρ l0 h su (jv_sti n k pc ls i st h) := by
  obtain ⟨t, v, vs, al', as', rfl, hk, hv, hn, hi, rfl, hL', hS'⟩ := jk_so_inv hs hL hS
  obtain ⟨X, x, rfl, rfl, _⟩ := jk_kd0 hk hv
  unfold jv_sti
  simp only
  rw [if_pos hi, jk_len hn]
  exact jk_one (List.mem_singleton.mpr rfl) hL' hS' hO (jk_Fr_rf h)
theorem jk_sta_ok {k i : Nat} (hs : jk_so 2 n k pc al i as = some su) (hL : jk_L ρ l0 al ls) (hS : jk_S ρ ls as st) (hO : jk_Ok RT ρ h) : jk_Nx RT pr rt ρ l0 h su (jv_sta n k pc ls i st h) := by
  obtain ⟨t, v, vs, al', as', rfl, hk, hv, hn, hi, rfl, hL', hS'⟩ := jk_so_inv hs hL hS
  unfold jv_sta
  rcases jk_kd2 hk hv with rfl | ⟨a, rfl⟩
  · simp only
    rw [if_pos hi, jk_len hn]
    exact jk_one (List.mem_singleton.mpr rfl) hL' hS' hO (jk_Fr_rf h)
  · simp only
    rw [if_pos hi, jk_len hn]
    exact jk_one (List.mem_singleton.mpr rfl) hL' hS' hO (jk_Fr_rf h)
theorem jk_stl_ok {k i : Nat} (hs : jk_so2 n k pc al i as = some su) (hL : jk_L ρ l0 al ls) (hS : jk_S ρ ls as st) (hO : jk_Ok RT ρ h) : jk_Nx RT pr rt ρ l0 h su (jv_stl n k pc ls i st h) := by
  unfold jk_so2 at hs
  split at hs
  · rename_i t s as'
    split at hs
    · rename_i hb
      simp only [Bool.and_eq_true, beq_iff_eq, decide_eq_true_eq] at hb
      cases hs
      obtain ⟨v, vs, rfl, hv, _, hS'⟩ := jk_S_cons hS
      obtain ⟨x, e, rfl⟩ := jk_kd1 hb.1.1 hv
      have e : t = jk_lg := e
      subst e
      unfold jv_stl
      simp only
      rw [if_pos (by rw [hL.1]; exact hb.1.2), jk_len hb.2]
      refine jk_one (List.mem_singleton.mpr rfl) ?_ (jk_S_ns hS') hO (jk_Fr_rf h)
      exact jk_setn (jk_set (jk_kl_ok hL i) (by rw [jk_kl_len]; omega) hv (fun d e => by cases e)) (i + 1)
    · cases hs
  · cases hs
theorem jk_o2_inv {f : Int × Int → Int × Int → Option jk_T} (hs : jk_o2 f n pc al as = some su) (hS : jk_S ρ ls as st) : ∃ (X Y : Int × Int) (x y : Int32) (as' : jk_AS) (vs : List Value) (t : jk_T), st = .int y :: .int x :: vs ∧ (X.1 ≤ x.toInt ∧ x.toInt ≤ X.2) ∧ (Y.1 ≤ y.toInt ∧ y.toInt ≤ Y.2) ∧ f X Y = some t ∧ jk_ps n 1 pc al as' t none = some su ∧ jk_S ρ ls as' vs := by
  unfold jk_o2 at hs
  split at hs
  · rename_i Y _ X _ as'
    split at hs
    · rename_i t e
      obtain ⟨v, vs, rfl, hv, _, hS'⟩ := jk_S_cons hS
      obtain ⟨w, ws, rfl, hw, _, hS2⟩ := jk_S_cons hS'
      obtain ⟨y, rfl, y1, y2⟩ := hv
      obtain ⟨x, rfl, x1, x2⟩ := hw
      exact ⟨X, Y, x, y, as', ws, t, rfl, ⟨x1, x2⟩, ⟨y1, y2⟩, e, hs, hS2⟩
    · cases hs
  · cases hs
theorem jk_b2_ok {f : Int × Int → Int × Int → Option jk_T} {g : Int32 → Int32 → Int32} (hg : ∀ (X Y : Int × Int) (x y : Int32) (t : jk_T), X.1 ≤ x.toInt ∧ x.toInt ≤ X.2 → Y.1 ≤ y.toInt ∧ y.toInt ≤ Y.2 → f X Y = some t → jk_V ρ t (.int (g x y))) (hs : jk_o2 f n pc al as = some su) (hL : jk_L ρ l0 al ls) (hS : jk_S ρ ls as st) (hO : jk_Ok RT ρ h) : jk_Nx RT pr rt ρ l0 h su (jv_b2 g n pc ls st h) := by
  obtain ⟨X, Y, x, y, as', vs, t, rfl, hx, hy, hf, hp, hS'⟩ := jk_o2_inv hs hS
  unfold jv_b2
  exact jk_ps_ok hp (hg X Y x y t hx hy hf) (fun i e => by cases e) hL hS' hO
theorem jk_l2_ok {g : Int64 → Int64 → Int64} (hs : jk_l2 n pc al as = some su) (hL : jk_L ρ l0 al ls) (hS : jk_S ρ ls as st) (hO : jk_Ok RT ρ h) : jk_Nx RT pr rt ρ l0 h su (jv_l2 g n pc ls st h) := by
  unfold jk_l2 at hs
  split at hs
  · obtain ⟨v, vs, rfl, hv, _, hS'⟩ := jk_S_cons hS
    obtain ⟨w, ws, rfl, hw, _, hS2⟩ := jk_S_cons hS'
    obtain ⟨y, rfl⟩ := hv
    obtain ⟨x, rfl⟩ := hw
    unfold jv_l2
    exact jk_ps_ok hs ⟨_, rfl⟩ (fun i e => by cases e) hL hS2 hO
  · cases hs
theorem jk_cj_ok {c : ClassFile.Cond} {off : Int} {x y : Int32} {X Y : Int × Int} {sx sy : Option Nat} (hs : jk_cj c n pc off al as X sx Y sy = some su) (hx : X.1 ≤ x.toInt ∧ x.toInt ≤ X.2) (hy : Y.1 ≤ y.toInt ∧ y.toInt ≤ Y.2) (hsx : ∀ i, sx = some i → ls[i]? = some (some (.int x))) (hsy : ∀ i, sy = some i → ls[i]? = some (some (.int y))) (hL : jk_L ρ l0 al ls) (hS : jk_S ρ ls as st) (hO : jk_Ok RT ρ h) : jk_Nx RT pr rt ρ l0 h su (jv_len n 3 (jv_go pc off (jv_cmp c x y) ls st h)) := by
  unfold jk_cj at hs
  split at hs
  · rename_i hn
    split at hs
    · rename_i t e
      cases hs
      rw [jk_len (eq_of_beq hn)]
      unfold jv_go
      rw [e]
      by_cases b : jv_cmp c x y = true
      · obtain ⟨al', m, l⟩ := jk_bs_ok (t := t) (as := as) hx hy hsx hsy b hL
        simp only [b, if_true]
        exact jk_one (List.mem_append_left _ m) l hS hO (jk_Fr_rf h)
      · obtain ⟨al', m, l⟩ := jk_bs_ok (t := pc + 3) (as := as) hx hy hsx hsy (jk_neg_ok b) hL
        simp only [b, if_false, Bool.false_eq_true]
        exact jk_one (List.mem_append_right _ m) l hS hO (jk_Fr_rf h)
    · cases hs
  · cases hs
theorem jk_idx {n lo : Nat} {j : Int × Int} {x : Int32} (h0 : 0 ≤ j.1) (h1 : j.2 < (lo : Int)) (hx : j.1 ≤ x.toInt ∧ x.toInt ≤ j.2) (hn : lo ≤ n) : ¬ (x < 0 ∨ n ≤ x.toNatClampNeg) := by
  have e : (0 : Int32).toInt = 0 := by decide
  rw [Int32.lt_iff_toInt_lt, e]
  unfold Int32.toNatClampNeg
  omega
theorem jk_al_ok {p : FieldType → Bool} {w : Nat} (hs : jk_al RT p w n pc al as = some su) (hL : jk_L ρ l0 al ls) (hS : jk_S ρ ls as st) (hO : jk_Ok RT ρ h) : ∃ (j : Int32) (a : Nat) (vs : List Value) (ty : FieldType) (kd : Nat) (v : Value), st = .int j :: .ref a :: vs ∧ p ty = true ∧ jt_at[kd]? = some ty ∧ ¬ kd = jt_scr ∧ (∃ n f, h.1 a = some (.inr (kd, n, f))) ∧ jv_al h a ty j = some v ∧ jk_Nx RT pr rt ρ l0 h su (jv_len n 1 (jv_n (pc + 1) ls (v :: vs) h)) := by
  unfold jk_al at hs
  split at hs
  · rename_i J _ A _ as'
    split at hs
    · rename_i q kd lo e he
      split at hs
      · rename_i ty hty
        split at hs
        · rename_i hb
          simp only [Bool.and_eq_true, beq_iff_eq, decide_eq_true_eq, Bool.not_eq_true', beq_eq_false_iff_ne, ne_eq] at hb
          obtain ⟨v, vs, rfl, hv, _, hS'⟩ := jk_S_cons hS
          obtain ⟨w', ws, rfl, hw, _, hS2⟩ := jk_S_cons hS'
          obtain ⟨j, rfl, j1, j2⟩ := hv
          obtain ⟨a, len, f, rfl, ha, hr, hc, hlo, hle, hf⟩ := jk_ar_ok he hw hO
          have hi := jk_idx hb.1.2 hb.2 ⟨j1, j2⟩ hlo
          refine ⟨j, a, ws, ty, kd, f j.toNatClampNeg, rfl, hb.1.1.1.1, hty, hb.1.1.2, ⟨len, f, hc⟩, ?_, jk_ps_ok hs (hf _) (fun i e => by cases e) hL hS2 hO⟩
          unfold jv_al
          rw [hc]
          exact if_pos ⟨hty, hi⟩
        · cases hs
      · cases hs
    · cases hs
  · cases hs
theorem jk_as_ok {p : FieldType → Bool} (hs : jk_as RT pr p n pc al as = some su) (hL : jk_L ρ l0 al ls) (hS : jk_S ρ ls as st) (hO : jk_Ok RT ρ h) : ∃ (v : Value) (j : Int32) (a : Nat) (vs : List Value) (ty : FieldType) (kd : Nat) (tv : jk_T) (h' : jv_H), st = v :: .int j :: .ref a :: vs ∧ jk_V ρ tv v ∧ jk_fit ty tv = true ∧ p ty = true ∧ jt_at[kd]? = some ty ∧ ¬ kd = jt_scr ∧ (∃ n f, h.1 a = some (.inr (kd, n, f))) ∧ jv_as h a ty j v = some h' ∧ (∀ C, ty = .object C → jk_isA RT C tv = true) ∧ jk_Nx RT pr rt ρ l0 h su (jv_len n 1 (jv_n (pc + 1) ls vs h')) := by
  unfold jk_as at hs
  split at hs
  · rename_i tv _ J _ A _ as'
    split at hs
    · rename_i q kd lo e he
      split at hs
      · rename_i ty hty
        split at hs
        · rename_i hb
          rw [Bool.and_eq_true, Bool.and_eq_true] at hb
          obtain ⟨⟨hb, hC⟩, hn⟩ := hb
          simp only [Bool.and_eq_true, beq_iff_eq, decide_eq_true_eq, Bool.not_eq_true', beq_eq_false_iff_ne, ne_eq] at hb
          cases hs
          obtain ⟨u, us, rfl, hu, _, hS0⟩ := jk_S_cons hS
          obtain ⟨v, vs, rfl, hv, _, hS'⟩ := jk_S_cons hS0
          obtain ⟨w', ws, rfl, hw, _, hS2⟩ := jk_S_cons hS'
          obtain ⟨j, rfl, j1, j2⟩ := hv
          obtain ⟨a, len, f, rfl, ha, hr, hc, hlo, hle, hf⟩ := jk_ar_ok he hw hO
          have hi := jk_idx hb.1.2 hb.2 ⟨j1, j2⟩ hlo
          refine ⟨u, j, a, ws, ty, kd, tv, (jv_up h.1 a (.inr (kd, len, updV f j.toNatClampNeg u)), h.2), rfl, hu, hb.1.1.1.1.2, hb.1.1.1.1.1.1, hty, hb.1.1.1.2, ⟨len, f, hc⟩, ?_, fun C hC' => ?_, ?_⟩
          · unfold jv_as
            rw [hc]
            exact if_pos ⟨hb.1.1.1.2, hty, hi⟩
          · subst hC'
            exact hC
          · rw [jk_len (eq_of_beq hn)]
            refine jk_one (List.mem_singleton.mpr rfl) hL hS2 ?_ ?_
            · refine jk_Ok_up hO ha hr ⟨rfl, hlo, hle, fun i => ?_⟩
              unfold updV
              split
              · exact jk_V_sub hb.1.1.1.1.1.2 hu
              · exact hf i
            · refine jk_Fr_up ha hc ⟨rfl, rfl, fun z => ?_⟩
              rw [hb.1.1.2] at z
              cases z
        · cases hs
      · cases hs
    · cases hs
  · cases hs
theorem jk_isA_ok {C : String} {t : jk_T} (hA : jk_isA RT C t = true) (hv : jk_V ρ t v) (hO : jk_Ok RT ρ h) : jv_isA h C v = true := by
  unfold jk_isA at hA
  split at hA
  · have e : v = .null := hv
    subst e
    rfl
  · rename_i q nn
    split at hA
    · rename_i ci ts hr
      rcases hv with ⟨_, rfl⟩ | ⟨a, rfl, ha⟩
      · rfl
      · obtain ⟨d, c, h1, h2, h3⟩ := hO a q ha
        rw [hr] at h1
        cases h1
        rcases c with ⟨ci2, fs⟩ | ⟨kd, n, f⟩
        · obtain ⟨rfl, _⟩ := h3
          simp only [jv_isA, jv_cl, h2]
          exact hA
        · exact h3.elim
    · cases hA
  · cases hA
theorem jk_cl_ok (hc : ∀ y, jk_Sp RT pr sg call y) {y : Nat} {args rest : jk_AS} {vs ws : List Value} (hs : jk_cl sg n pc y al args rest = some su) (hV : jk_Vs ρ (args.map fun a => a.1) vs) (hL : jk_L ρ l0 al ls) (hS : jk_S ρ ls rest ws) (hO : jk_Ok RT ρ h) : jk_Nx RT pr rt ρ l0 h su (jv_inv call y n pc ls vs ws h) := by
  unfold jk_cl at hs
  split at hs
  · rename_i ats rty hsg
    split at hs
    · rename_i hb
      simp only [Bool.and_eq_true, beq_iff_eq, decide_eq_true_eq] at hb
      obtain ⟨r, h', e, hO', hF, hR⟩ := hc y ats rty hsg ρ h vs hO (jk_Vs_sub hb.1.2 hV)
      have hw : jv_wide ws = true := by
        unfold jv_wide
        rw [jk_S_w hS]
        exact decide_eq_true hb.2
      unfold jv_inv
      rw [if_pos ⟨hb.1.1, hw⟩, e]
      cases rty with
      | none =>
        cases hs
        cases r with
        | none => exact jk_one (List.mem_singleton.mpr rfl) hL hS hO' hF
        | some v => exact hR.elim
      | some t =>
        cases hs
        cases r with
        | none => exact hR.elim
        | some v => exact jk_one (List.mem_singleton.mpr rfl) hL ⟨hR, fun i e => (by cases e), hS⟩ hO' hF
    · cases hs
  · cases hs
end JK
