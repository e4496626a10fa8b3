/-! every instruction that the checker takes -/
section JK
variable {RT : List jk_D} {pr : Nat → Nat → Bool} {sg : jk_G} {rt : Option jk_T} {ρ : jk_R} {M n pc : Nat} {l0 ls : jv_L} {al : jk_AL} {as : jk_AS} {st : List Value} {h : jv_H} {call : jv_F} {su : List jk_A} {v : Value}
theorem jk_two {off : Int} {t : Nat} {b : Bool} (hn : n = 3) (e : jv_to pc off = some t) (h1 : (t, al, as) ∈ su) (h2 : (pc + 3, al, as) ∈ su) (hL : jk_L ρ l0 al ls) (hS : jk_S ρ ls as st) (hO : jk_Ok RT ρ h) : jk_Nx RT pr rt ρ l0 h su (jv_len n 3 (jv_go pc off b ls st h)) := by
  rw [jk_len hn]
  unfold jv_go
  rw [e]
  cases b
  · exact jk_one h2 hL hS hO (jk_Fr_rf h)
  · exact jk_one h1 hL hS hO (jk_Fr_rf h)
theorem jk_goto {off : Int} {t : Nat} (e : jv_to pc off = some t) (h1 : (t, al, as) ∈ su) (hL : jk_L ρ l0 al ls) (hS : jk_S ρ ls as st) (hO : jk_Ok RT ρ h) : jk_Nx RT pr rt ρ l0 h su (jv_go pc off true ls st h) := by
  unfold jv_go
  rw [e]
  exact jk_one h1 hL hS hO (jk_Fr_rf h)
theorem jk_gt_mem {off : Int} {t : Nat} (e : jv_to pc off = some t) : (t, al, as) ∈ jk_gt pc off al as := by
  unfold jk_gt
  rw [e]
  exact List.mem_singleton.mpr rfl
theorem jk_i_iinc {k : Nat} {c : Int} (hs : jk_ins RT pr sg rt M (.iinc k c) n pc al as = some su) (hL : jk_L ρ l0 al ls) (hS : jk_S ρ ls as st) (hO : jk_Ok RT ρ h) : jk_Nx RT pr rt ρ l0 h su (jv_ins call M (.iinc k c) n pc ls st h) := by
  simp only [jk_ins] at hs
  split at hs
  · rename_i b δ e
    obtain ⟨v, e1, hv, hd⟩ := hL.2 k _ δ e
    obtain ⟨x, rfl, x1, x2⟩ := hv
    split at hs
    · rename_i hb
      simp only [Bool.and_eq_true, beq_iff_eq, decide_eq_true_eq] at hb
      have hk : k < ls.length := (List.getElem?_eq_some_iff.mp e1).1
      have hka : k < (jk_kl al k).length := by rw [jk_kl_len, ← hL.1]; exact hk
      have ec : (Int32.ofInt c).toInt = c := by
        rw [Int32.toInt_ofInt]
        exact Int.bmod_eq_of_le (by simp only [Int32.size]; omega) (by simp only [Int32.size]; omega)
      have ex : jk_x ls k = x.toInt := by unfold jk_x; rw [e1]
      simp only [jv_ins, e1, if_pos hk]
      rw [jk_len hb.1.1]
      split at hs
      · rename_i hr
        simp only [Bool.and_eq_true, decide_eq_true_eq] at hr
        cases hs
        have ea : (x + Int32.ofInt c).toInt = x.toInt + c := by
          rw [Int32.toInt_add, ec]
          exact Int.bmod_eq_of_le (by omega) (by omega)
        refine jk_one (List.mem_singleton.mpr rfl) (jk_set (jk_kl_ok hL k) hka ⟨_, rfl, by rw [ea]; show b.1 + c ≤ _; omega, by rw [ea]; show _ ≤ b.2 + c; omega⟩ (fun d q => ?_)) (jk_S_ns hS) hO (jk_Fr_rf h)
        cases δ with
        | none => cases q
        | some d0 =>
          cases q
          have := hd d0 rfl
          exact ⟨_, rfl, by rw [ea]; show _ = _ + (d0 + c); omega⟩
      · cases hs
        exact jk_one (List.mem_singleton.mpr rfl) (jk_set (jk_kl_ok hL k) hka jk_V_top (fun d q => by cases q)) (jk_S_ns hS) hO (jk_Fr_rf h)
    · cases hs
  · cases hs
theorem jk_i_acmp {cd : ACond} {off : Int} (hs : jk_ins RT pr sg rt M (.if_acmp cd off) n pc al as = some su) (hL : jk_L ρ l0 al ls) (hS : jk_S ρ ls as st) (hO : jk_Ok RT ρ h) : jk_Nx RT pr rt ρ l0 h su (jv_ins call M (.if_acmp cd off) n pc ls st h) := by
  simp only [jk_ins] at hs
  split at hs
  · rename_i y _ x _ as'
    split at hs
    · rename_i hb
      simp only [Bool.and_eq_true, beq_iff_eq] at hb
      split at hs
      · rename_i t e
        cases hs
        obtain ⟨v, vs, rfl, hv, _, hS'⟩ := jk_S_cons hS
        obtain ⟨w, ws, rfl, hw, _, hS2⟩ := jk_S_cons hS'
        have m1 : (t, al, as') ∈ [(t, al, as'), (pc + 3, al, as')] := List.mem_cons_self
        have m2 : (pc + 3, al, as') ∈ [(t, al, as'), (pc + 3, al, as')] := List.mem_cons_of_mem _ List.mem_cons_self
        rcases jk_kd2 hb.1.1 hv with rfl | ⟨a, rfl⟩ <;> rcases jk_kd2 hb.1.2 hw with rfl | ⟨a', rfl⟩ <;> exact jk_two hb.2 e m1 m2 hL hS2 hO
      · cases hs
    · cases hs
  · cases hs
theorem jk_i_null {off : Int} (hs : jk_ins RT pr sg rt M (.ifnull off) n pc al as = some su) (hL : jk_L ρ l0 al ls) (hS : jk_S ρ ls as st) (hO : jk_Ok RT ρ h) : jk_Nx RT pr rt ρ l0 h su (jv_ins call M (.ifnull off) n pc ls st h) := by
  simp only [jk_ins] at hs
  split at hs
  · rename_i s as'
    split at hs
    · rename_i t e
      split at hs
      · rename_i hn
        cases hs
        obtain ⟨v, vs, rfl, hv, _, hS'⟩ := jk_S_cons hS
        have q : v = .null := hv
        subst q
        show jk_Nx RT pr rt ρ l0 h _ (jv_len n 3 (jv_go pc off true ls vs h))
        rw [jk_len (eq_of_beq hn)]
        exact jk_goto e (List.mem_singleton.mpr rfl) hL hS' hO
      · cases hs
    · cases hs
  · rename_i q nn s as'
    split at hs
    · rename_i t e
      split at hs
      · rename_i hn
        cases hs
        obtain ⟨v, vs, rfl, hv, hsrc, hS'⟩ := jk_S_cons hS
        rcases hv with ⟨e1, rfl⟩ | ⟨a, rfl, ha⟩
        · show jk_Nx RT pr rt ρ l0 h _ (jv_len n 3 (jv_go pc off true ls vs h))
          rw [jk_len (eq_of_beq hn)]
          have e1 : nn = false := e1
          subst e1
          exact jk_goto e (List.mem_append_left _ (List.mem_singleton.mpr rfl)) hL hS' hO
        · show jk_Nx RT pr rt ρ l0 h _ (jv_len n 3 (jv_n (pc + 3) ls vs h))
          rw [jk_len (eq_of_beq hn)]
          exact jk_one (List.mem_append_right _ (List.mem_singleton.mpr rfl)) (jk_nar_ok hL hsrc (Or.inr ⟨a, rfl, ha⟩)) hS' hO (jk_Fr_rf h)
      · cases hs
    · cases hs
  · cases hs
theorem jk_i_nonnull {off : Int} (hs : jk_ins RT pr sg rt M (.ifnonnull off) n pc al as = some su) (hL : jk_L ρ l0 al ls) (hS : jk_S ρ ls as st) (hO : jk_Ok RT ρ h) : jk_Nx RT pr rt ρ l0 h su (jv_ins call M (.ifnonnull off) n pc ls st h) := by
  simp only [jk_ins] at hs
  split at hs
  · rename_i s as'
    split at hs
    · rename_i hn
      cases hs
      obtain ⟨v, vs, rfl, hv, _, hS'⟩ := jk_S_cons hS
      have q : v = .null := hv
      subst q
      show jk_Nx RT pr rt ρ l0 h _ (jv_len n 3 (jv_n (pc + 3) ls vs h))
      rw [jk_len (eq_of_beq hn)]
      exact jk_one (List.mem_singleton.mpr rfl) hL hS' hO (jk_Fr_rf h)
    · cases hs
  · rename_i q nn s as'
    split at hs
    · rename_i t e
      split at hs
      · rename_i hn
        cases hs
        obtain ⟨v, vs, rfl, hv, hsrc, hS'⟩ := jk_S_cons hS
        rcases hv with ⟨e1, rfl⟩ | ⟨a, rfl, ha⟩
        · show jk_Nx RT pr rt ρ l0 h _ (jv_len n 3 (jv_n (pc + 3) ls vs h))
          rw [jk_len (eq_of_beq hn)]
          have e1 : nn = false := e1
          subst e1
          exact jk_one (List.mem_append_left _ (List.mem_singleton.mpr rfl)) hL hS' hO (jk_Fr_rf h)
        · show jk_Nx RT pr rt ρ l0 h _ (jv_len n 3 (jv_go pc off true ls vs h))
          rw [jk_len (eq_of_beq hn)]
          exact jk_goto e (List.mem_append_right _ (List.mem_singleton.mpr rfl)) (jk_nar_ok hL hsrc (Or.inr ⟨a, rfl, ha⟩)) hS' hO
      · cases hs
    · cases hs
  · cases hs
theorem jk_i_table {dflt lo hi : Int} {offs : Array Int} (hs : jk_ins RT pr sg rt M (.tableswitch dflt lo hi offs) n pc al as = some su) (hL : jk_L ρ l0 al ls) (hS : jk_S ρ ls as st) (hO : jk_Ok RT ρ h) : jk_Nx RT pr rt ρ l0 h su (jv_ins call M (.tableswitch dflt lo hi offs) n pc ls st h) := by
  simp only [jk_ins] at hs
  split at hs
  · rename_i X s as'
    split at hs
    · rename_i hb
      simp only [Bool.and_eq_true, decide_eq_true_eq, List.all_eq_true] at hb
      cases hs
      obtain ⟨v, vs, rfl, hv, _, hS'⟩ := jk_S_cons hS
      obtain ⟨x, rfl, x1, x2⟩ := hv
      simp only [jv_ins]
      by_cases hr : x.toInt < lo ∨ hi < x.toInt
      · rw [if_pos hr]
        obtain ⟨t, e⟩ := Option.isSome_iff_exists.mp hb.1.2
        refine jk_goto e (List.mem_append_left _ ?_) hL hS' hO
        rw [if_pos (by simp only [Bool.or_eq_true, decide_eq_true_eq]; omega)]
        exact jk_gt_mem e
      · rw [if_neg hr]
        have hr1 : lo ≤ x.toInt := by omega
        have hr2 : x.toInt ≤ hi := by omega
        have hlt : (x.toInt - lo).toNat < offs.size := by omega
        rw [Array.getElem?_eq_getElem hlt]
        have hm : offs[(x.toInt - lo).toNat] ∈ offs.toList := by simp
        obtain ⟨t, e⟩ := Option.isSome_iff_exists.mp (hb.2 _ hm)
        refine jk_goto e (List.mem_append_right _ (List.mem_flatMap.mpr ⟨(offs[(x.toInt - lo).toNat], (x.toInt - lo).toNat), ?_, ?_⟩)) hL hS' hO
        · rw [List.mk_mem_zipIdx_iff_getElem?]
          simp
        · simp only
          rw [if_pos (by simp only [Bool.and_eq_true, decide_eq_true_eq]; omega)]
          exact jk_gt_mem e
    · cases hs
  · cases hs
theorem jk_off (ps : List (Int × Int)) (d k : Int) : Op.lookupswitch.offset ps d k = d ∨ ∃ q ∈ ps, q.1 = k ∧ Op.lookupswitch.offset ps d k = q.2 := by
  induction ps with
  | nil => exact Or.inl rfl
  | cons p r ih =>
    obtain ⟨a, o⟩ := p
    unfold Op.lookupswitch.offset
    split
    · rename_i e
      exact Or.inr ⟨(a, o), List.mem_cons_self, e, rfl⟩
    · rcases ih with q | ⟨q, m, e⟩
      · exact Or.inl q
      · exact Or.inr ⟨q, List.mem_cons_of_mem _ m, e⟩
theorem jk_i_lookup {dflt : Int} {ps : Array (Int × Int)} (hs : jk_ins RT pr sg rt M (.lookupswitch dflt ps) n pc al as = some su) (hL : jk_L ρ l0 al ls) (hS : jk_S ρ ls as st) (hO : jk_Ok RT ρ h) : jk_Nx RT pr rt ρ l0 h su (jv_ins call M (.lookupswitch dflt ps) n pc ls st h) := by
  simp only [jk_ins] at hs
  split at hs
  · rename_i X s as'
    split at hs
    · rename_i hb
      rw [Bool.and_eq_true, Bool.and_eq_true] at hb
      obtain ⟨⟨hb1, hb2⟩, hb3⟩ := hb
      cases hs
      obtain ⟨v, vs, rfl, hv, _, hS'⟩ := jk_S_cons hS
      obtain ⟨x, rfl, x1, x2⟩ := hv
      simp only [jv_ins]
      rw [if_pos hb1]
      rcases jk_off ps.toList dflt x.toInt with q | ⟨q, m, eq, e0⟩
      · rw [q]
        obtain ⟨t, e⟩ := Option.isSome_iff_exists.mp hb2
        exact jk_goto e (List.mem_append_left _ (jk_gt_mem e)) hL hS' hO
      · rw [e0]
        obtain ⟨t, e⟩ := Option.isSome_iff_exists.mp (List.all_eq_true.mp hb3 q m)
        refine jk_goto e (List.mem_append_right _ (List.mem_flatMap.mpr ⟨q, m, ?_⟩)) hL hS' hO
        rw [if_pos (by simp only [Bool.and_eq_true, decide_eq_true_eq]; omega)]
        exact jk_gt_mem e
    · cases hs
  · cases hs
theorem jk_i_get {k : Nat} (hs : jk_ins RT pr sg rt M (.getfield k) n pc al as = some su) (hL : jk_L ρ l0 al ls) (hS : jk_S ρ ls as st) (hO : jk_Ok RT ρ h) : jk_Nx RT pr rt ρ l0 h su (jv_ins call M (.getfield k) n pc ls st h) := by
  simp only [jk_ins] at hs
  split at hs
  · rename_i a s as'
    split at hs
    · rename_i q ci ts ci' f hob hf
      split at hs
      · rename_i t ht
        split at hs
        · rename_i hb
          have hb := eq_of_beq hb
          subst hb
          obtain ⟨v, vs, rfl, hv, _, hS'⟩ := jk_S_cons hS
          obtain ⟨a, fs, rfl, ha, hr, hc, hV⟩ := jk_ob_ok hob hv hO
          obtain ⟨w, hw, hwv⟩ := jk_Vs_get hV ht
          have hg : jv_gf h a ci f = some w := by
            unfold jv_gf
            rw [hc]
            exact (if_pos rfl).trans hw
          simp only [jv_ins, hf, hg]
          exact jk_ps_ok hs hwv (fun i e => by cases e) hL hS' hO
        · cases hs
      · cases hs
    · cases hs
  · cases hs
theorem jk_i_put {k : Nat} (hs : jk_ins RT pr sg rt M (.putfield k) n pc al as = some su) (hL : jk_L ρ l0 al ls) (hS : jk_S ρ ls as st) (hO : jk_Ok RT ρ h) : jk_Nx RT pr rt ρ l0 h su (jv_ins call M (.putfield k) n pc ls st h) := by
  simp only [jk_ins] at hs
  split at hs
  · rename_i tv _ a s as'
    split at hs
    · rename_i q ci ts ci' f hob hf
      split at hs
      · rename_i t ht
        split at hs
        · rename_i hb
          simp only [Bool.and_eq_true, beq_iff_eq, Bool.not_eq_true'] at hb
          obtain ⟨⟨⟨⟨⟨rfl, b2⟩, b3⟩, b4⟩, b5⟩, b6⟩ := hb
          cases hs
          obtain ⟨w, ws, rfl, hw, _, hS0⟩ := jk_S_cons hS
          obtain ⟨v, vs, rfl, hv, _, hS'⟩ := jk_S_cons hS0
          obtain ⟨a, fs, rfl, ha, hr, hc, hV⟩ := jk_ob_ok hob hv hO
          have hfl : f < fs.length := by rw [jk_Vs_len hV]; exact (List.getElem?_eq_some_iff.mp ht).1
          have hfit := jk_fit_ok b3 hw
          have hp : jv_pf h a ci f w = some (jv_up h.1 a (.inl (ci, fs.set f w)), h.2) := by
            unfold jv_pf
            rw [hc]
            exact if_pos ⟨rfl, hfl, hfit.1, hfit.2⟩
          simp only [jv_ins, hf, hp]
          rw [if_pos (Or.inl b5), jk_len b6]
          refine jk_one (List.mem_singleton.mpr rfl) hL hS' (jk_Ok_up hO ha hr ⟨rfl, jk_Vs_set hV ht (jk_V_sub b2 hw)⟩) (jk_Fr_up ha hc ⟨rfl, by simp, fun k hk => ?_⟩)
          have hne : ¬ f = k := fun e => by rw [← e, b4] at hk; cases hk
          exact List.getElem?_set_ne hne
        · cases hs
      · cases hs
    · cases hs
  · cases hs
theorem jk_isO_inv {ty : FieldType} (hp : jk_isO ty = true) : ∃ C, ty = .object C := by
  cases ty <;> first | exact ⟨_, rfl⟩ | cases hp
theorem jk_kn_ok {a kd : Nat} {C : String} (hc : ∃ n f, h.1 a = some (.inr (kd, n, f))) (hs : ¬ kd = jt_scr) (ht : jt_at[kd]? = some (.object C)) : jv_kn h a = some C := by
  obtain ⟨n, f, hc⟩ := hc
  unfold jv_kn
  rw [hc]
  simp only
  rw [if_neg hs, ht]
  rfl
theorem jk_i_virt (hc : ∀ y, jk_Sp RT pr sg call y) {k : Nat} (hs : jk_ins RT pr sg rt M (.invokevirtual k) n pc al as = some su) (hL : jk_L ρ l0 al ls) (hS : jk_S ρ ls as st) (hO : jk_Ok RT ρ h) : jk_Nx RT pr rt ρ l0 h su (jv_ins call M (.invokevirtual k) n pc ls st h) := by
  simp only [jk_ins] at hs
  split at hs
  · rename_i y hy
    split at hs
    · rename_i b s rest hdr
      split at hs
      · rename_i q ci ts hob
        split at hs
        · rename_i hb
          simp only [Bool.and_eq_true, beq_iff_eq] at hb
          have hS' := jk_S_drop (k := jt_np y) hS
          rw [hdr] at hS'
          obtain ⟨v, vs, hst, hv, hsrc, hS2⟩ := jk_S_cons hS'
          obtain ⟨a, fs, rfl, ha, hr, hcell, hV⟩ := jk_ob_ok hob hv hO
          have hcl : jv_cl h a = some (jt_own y) := by
            unfold jv_cl
            rw [hcell, ← hb.2]
          have hlen : jt_np y ≤ st.length := by
            have := congrArg List.length hst
            simp at this
            omega
          simp only [jv_ins, hy, hst]
          rw [if_pos ⟨hb.1, hcl, hlen⟩]
          refine jk_cl_ok hc hs ?_ hL hS2 hO
          rw [List.map_cons, List.map_reverse]
          exact ⟨hv, jk_Vs_rev (jk_S_take hS)⟩
        · cases hs
      · cases hs
    · cases hs
  · cases hs
theorem jk_i_stat (hc : ∀ y, jk_Sp RT pr sg call y) {k : Nat} (hs : jk_ins RT pr sg rt M (.invokestatic k) n pc al as = some su) (hL : jk_L ρ l0 al ls) (hS : jk_S ρ ls as st) (hO : jk_Ok RT ρ h) : jk_Nx RT pr rt ρ l0 h su (jv_ins call M (.invokestatic k) n pc ls st h) := by
  simp only [jk_ins] at hs
  split at hs
  · rename_i y hy
    split at hs
    · rename_i hb
      simp only [Bool.and_eq_true, beq_iff_eq, decide_eq_true_eq] at hb
      simp only [jv_ins, hy]
      rw [if_pos ⟨hb.1, by rw [jk_S_len hS]; exact hb.2⟩]
      refine jk_cl_ok hc hs ?_ hL (jk_S_drop hS) hO
      rw [List.map_reverse]
      exact jk_Vs_rev (jk_S_take hS)
    · cases hs
  · cases hs
theorem jk_i_iret (hs : jk_ins RT pr sg rt M .ireturn n pc al as = some su) (hS : jk_S ρ ls as st) : jk_Nx RT pr rt ρ l0 h su (jv_ins call M .ireturn n pc ls st h) := by
  simp only [jk_ins] at hs
  split at hs
  · rename_i v s ty t hret
    split at hs
    · rename_i hb
      simp only [Bool.and_eq_true, beq_iff_eq] at hb
      obtain ⟨w, ws, rfl, hw, _, hS'⟩ := jk_S_cons hS
      have e := jk_S_nil hS'
      subst e
      obtain ⟨X, x, _, rfl, _⟩ := jk_kd0 hb.1.1.2 hw
      have hfit := jk_fit_ok hb.2 hw
      simp only [jv_ins, hret]
      rw [if_pos ⟨hb.1.1.1, hfit.1, hfit.2⟩]
      exact Or.inr ⟨_, rfl, jk_V_sub hb.1.2 hw⟩
    · cases hs
  · cases hs
theorem jk_i_lret (hs : jk_ins RT pr sg rt M .lreturn n pc al as = some su) (hS : jk_S ρ ls as st) : jk_Nx RT pr rt ρ l0 h su (jv_ins call M .lreturn n pc ls st h) := by
  simp only [jk_ins] at hs
  split at hs
  · rename_i v s ty t hret
    split at hs
    · rename_i hb
      simp only [Bool.and_eq_true, beq_iff_eq] at hb
      obtain ⟨w, ws, rfl, hw, _, hS'⟩ := jk_S_cons hS
      have e := jk_S_nil hS'
      subst e
      obtain ⟨x, _, rfl⟩ := jk_kd1 hb.1.1.2 hw
      have ety : ty = .long := by cases ty <;> first | rfl | cases hb.2
      subst ety
      simp only [jv_ins, hret]
      rw [if_pos hb.1.1.1]
      exact Or.inr ⟨_, rfl, jk_V_sub hb.1.2 hw⟩
    · cases hs
  · cases hs
theorem jk_i_aret (hs : jk_ins RT pr sg rt M .areturn n pc al as = some su) (hS : jk_S ρ ls as st) : jk_Nx RT pr rt ρ l0 h su (jv_ins call M .areturn n pc ls st h) := by
  simp only [jk_ins] at hs
  split at hs
  · rename_i v s ty t hret
    split at hs
    · rename_i hb
      simp only [Bool.and_eq_true, beq_iff_eq] at hb
      obtain ⟨w, ws, rfl, hw, _, hS'⟩ := jk_S_cons hS
      have e := jk_S_nil hS'
      subst e
      obtain ⟨C, rfl⟩ := jk_isO_inv hb.2
      rcases jk_kd2 hb.1.1.2 hw with rfl | ⟨a, rfl⟩
      · simp only [jv_ins, hret]
        rw [if_pos hb.1.1.1]
        exact Or.inr ⟨_, rfl, jk_V_sub hb.1.2 hw⟩
      · simp only [jv_ins, hret]
        rw [if_pos hb.1.1.1]
        exact Or.inr ⟨_, rfl, jk_V_sub hb.1.2 hw⟩
    · cases hs
  · cases hs
theorem jk_i_ret (hs : jk_ins RT pr sg rt M .return_ n pc al as = some su) (hS : jk_S ρ ls as st) : jk_Nx RT pr rt ρ l0 h su (jv_ins call M .return_ n pc ls st h) := by
  simp only [jk_ins] at hs
  split at hs
  · rename_i hret
    split at hs
    · rename_i hb
      have e := jk_S_nil hS
      subst e
      simp only [jv_ins, hret]
      rw [if_pos (eq_of_beq hb)]
      exact Or.inr ⟨_, rfl, True.intro⟩
    · cases hs
  · cases hs
theorem jk_nos {ls : jv_L} {v : Value} : ∀ i, (none : Option Nat) = some i → ls[i]? = some (some v) := fun i e => by cases e
end JK
