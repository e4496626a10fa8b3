/-! frames, words, bytes; before the first job and after it -/
section JG
variable {ρ : jk_R} {h h' : jv_H} {d b0 s0 x : Nat}
/-- no job was taken yet; the tray has w words -/
def jo_0 (h : jv_H) (x w : Nat) : Prop := w ≤ 1000 ∧ jv_gf h x 6 4 = some (.int (nI 0)) ∧ jv_gf h x 6 5 = some (.int (nI 0)) ∧ jv_gf h x 6 6 = some (.int (nI 0)) ∧ jo_tr h x w
theorem jo_0k {w : Nat} (hO : jk_Ok jc_RT ρ h) (hx : ρ x = some 0) (hF : jk_Fr jc_pr ρ h h') (h0 : jo_0 h x w) : jo_0 h' x w := by
  obtain ⟨hw, e1, e2, e3, tr, e4, e5⟩ := h0
  have htr : ρ tr = some 1 := by
    obtain ⟨p, e, hp⟩ := jg_ref (k := 0) hO hx rfl rfl
    rw [e4] at e
    cases e
    exact hp
  exact ⟨hw, by rw [jg_kf (k := 4) hO hF hx rfl]; exact e1, by rw [jg_kf (k := 5) hO hF hx rfl]; exact e2, by rw [jg_kf (k := 6) hO hF hx rfl]; exact e3, tr, by rw [jg_kf (k := 0) hO hF hx rfl]; exact e4, by rw [jg_kf (k := 2) hO hF htr rfl]; exact e5⟩
theorem jo_0c {w : Nat} (hg : ∀ b c m, c = 6 ∨ (c = 5 ∧ m = 2) → jv_gf h' b c m = jv_gf h b c m) (h0 : jo_0 h x w) : jo_0 h' x w := by
  obtain ⟨hw, e1, e2, e3, tr, e4, e5⟩ := h0
  exact ⟨hw, by rw [hg _ _ _ (Or.inl rfl)]; exact e1, by rw [hg _ _ _ (Or.inl rfl)]; exact e2, by rw [hg _ _ _ (Or.inl rfl)]; exact e3, tr, by rw [hg _ _ _ (Or.inl rfl)]; exact e4, by rw [hg _ _ _ (Or.inr ⟨rfl, rfl⟩)]; exact e5⟩
theorem jo_frames {f : Int32} {m : Nat} (hI : jg_I 0 b0 s0 ρ h x) (hm : m ≤ 12) (e1 : jv_gf h x 6 4 = some (.int (nI m))) : ∃ h', jv_run (d + 2) 123 [.ref x, .int f] h = some (some (.int (if f < nI 3 ∨ nI 17 < f ∨ ¬ m = 0 then -1 else f)), h') ∧ jg_G 0 b0 s0 ρ h x ρ h' ∧ (∀ w, jo_0 h x w → jo_0 h' x w) := by
  have hO := hI.1
  have hx := hI.2.1
  rw [N123]
  by_cases c1 : f < nI 3
  · refine ⟨h, ?_, jg_G_rf hI, fun _ q => q⟩
    simp (disch := first | omega | exact id rfl | exact jd_i | exact jd_r | exact jd_n | exact jd_f | decide | (simp (disch := omega) only [c1, Option.isSome_some])) only [c1, Option.isSome_some, Option.getD_some, Option.toList_some, Option.toList_none, List.cons_append, List.nil_append, E123_0, E123_1, E123_2, E123_18, E123_19, if_true, true_or]
  · by_cases c2 : nI 17 < f
    · refine ⟨h, ?_, jg_G_rf hI, fun _ q => q⟩
      simp (disch := first | omega | exact id rfl | exact jd_i | exact jd_r | exact jd_n | exact jd_f | decide | (simp (disch := omega) only [c1, c2, Option.isSome_some])) only [c1, c2, Option.isSome_some, Option.getD_some, Option.toList_some, Option.toList_none, List.cons_append, List.nil_append, E123_0, E123_1, E123_2, E123_5, E123_6, E123_8, E123_18, E123_19, if_true, if_false, true_or, or_true]
    · by_cases c3 : m = 0
      · subst c3
        obtain ⟨co, e2, hco⟩ := jg_ref (k := 1) hO hx rfl rfl
        have hcl := jh_cl hO hco (q := 2) rfl
        have f1 : 3 ≤ f.toInt ∧ f.toInt ≤ 17 := by
          have q1 := Int32.not_lt.mp c1
          have q2 := Int32.not_lt.mp c2
          rw [Int32.le_iff_toInt_le] at q1 q2
          have : (nI 3).toInt = 3 := by decide
          have : (nI 17).toInt = 17 := by decide
          omega
        obtain ⟨h1, g1, hO1, hz1, hn1, _, hg1, ha1⟩ := jg_put (k := 1) (v := .int f) hO hco rfl rfl ⟨f, rfl, f1.1, f1.2⟩ rfl
        have G1 := jg_G_put hI hO1 hz1 hn1 hg1 ha1 (by simp [jg_key]) (by simp)
        obtain ⟨h2, g2, hO2, hz2, hn2, _, hg2, ha2⟩ := jg_put (k := 2) (v := .int f) hO1 hco rfl rfl jk_V_top rfl
        have G2 := jg_G_tr G1 (jg_G_put G1.1 hO2 hz2 hn2 hg2 ha2 (by simp [jg_key]) (by simp))
        have k1 : jv_run (d + 1) 67 [.ref co, .int f] h = some (none, h2) := by
          rw [N67]
          simp (disch := first | omega | exact id rfl | exact jd_i | exact jd_r | exact jd_n | exact jd_f | decide | (simp (disch := omega) only [g1, g2, Option.isSome_some])) only [g1, g2, Option.isSome_some, Option.getD_some, Option.toList_some, Option.toList_none, List.cons_append, List.nil_append, E67_0, E67_1, E67_2, E67_5, E67_6, E67_7, E67_10]
        refine ⟨h2, ?_, G2, fun w q => jo_0c (fun b c m hc => ?_) q⟩
        · have c4 : nI 0 ≤ (0 : Int32) := by decide
          simp (disch := first | omega | exact id rfl | exact jd_i | exact jd_r | exact jd_n | exact jd_f | decide | (simp (disch := omega) only [e1, e2, k1, hcl, c1, c2, c4, Option.isSome_some])) only [e1, e2, k1, hcl, c1, c2, c4, Option.isSome_some, Option.getD_some, Option.toList_some, Option.toList_none, List.cons_append, List.nil_append, E123_0, E123_1, E123_2, E123_5, E123_6, E123_8, E123_11, E123_12, E123_15, E123_20, E123_21, E123_24, E123_25, E123_28, E123_29, if_true, if_false, or_self, not_true_eq_false]
        · rw [hg2 b c m (fun q => by rcases hc with y | ⟨y, _⟩ <;> omega), hg1 b c m (fun q => by rcases hc with y | ⟨y, _⟩ <;> omega)]
      · refine ⟨h, ?_, jg_G_rf hI, fun _ q => q⟩
        have c4 : ¬ nI m ≤ (0 : Int32) := nI_nle (by omega) (by omega)
        simp (disch := first | omega | exact id rfl | exact jd_i | exact jd_r | exact jd_n | exact jd_f | decide | (simp (disch := omega) only [e1, c1, c2, c3, c4, Option.isSome_some])) only [e1, c1, c2, c3, c4, Option.isSome_some, Option.getD_some, Option.toList_some, Option.toList_none, List.cons_append, List.nil_append, E123_0, E123_1, E123_2, E123_5, E123_6, E123_8, E123_11, E123_12, E123_15, E123_18, E123_19, if_true, if_false, or_true, not_false_eq_true]
def jq_w48' (v : Int64) : Int64 := (v <<< ((nI 16).toInt64 &&& 63)) >>> ((nI 16).toInt64 &&& 63)
/-- a word more -/
theorem jo_add {tr c : Nat} {v : Int64} (hI : jg_I 0 b0 s0 ρ h x) (htr : ρ tr = some 1) (hc : c < 1000) (e1 : jv_gf h tr 5 2 = some (.int (nI c))) : ∃ h', jv_run (d + 2) 119 [.ref tr, .long v] h = some (none, h') ∧ jg_G 0 b0 s0 ρ h x ρ h' ∧ (∀ b k m, ¬ (b = tr ∧ k = 5 ∧ m = 2) → jv_gf h' b k m = jv_gf h b k m) ∧ jv_gf h' tr 5 2 = some (.int (nI (c + 1))) := by
  have hO := hI.1
  obtain ⟨wr, e2, hwr⟩ := jg_ref (k := 0) hO htr rfl rfl
  have b1 : ¬ nI 1000 ≤ nI c := by rw [nI_leI (by decide) (by omega)]; omega
  have f1 : jv_run (d + 1) 89 [.long v] h = some (some (.long (jq_w48' v)), h) := by
    rw [N89]
    simp (disch := first | omega | exact id rfl | exact jd_i | exact jd_r | exact jd_n | exact jd_f | decide) only [E89_0, E89_1, E89_3, E89_4, E89_6, E89_7, jq_w48']
  have t0 : (nI c).toInt = ((c : Nat) : Int) := nI_toInt (by omega)
  obtain ⟨h1, f2, hO1, hF1, hg1⟩ := jh_st (pr := jc_pr) (x := nI c) (v := .long (jq_w48' v)) hO hwr (q := 6) (kd := 1) (ty := .long) rfl rfl (by decide) (by rw [t0]; omega) (by rw [t0]; omega) ⟨_, rfl⟩ rfl
  have G1 := jg_G_fr hI hO1 hF1
  have e3 : jv_gf h1 tr 5 2 = some (.int (nI c)) := (hg1 _ _ _).trans e1
  have et : (nI c + nI 1 : Int32) = nI (c + 1) := nI_add c 1
  have et2 : (nI (c + 1)).toInt = ((c + 1 : Nat) : Int) := nI_toInt (by omega)
  obtain ⟨h2, f3, hO2, hz2, hn2, hat2, hg2, ha2⟩ := jg_put (k := 2) (v := .int (nI (c + 1))) hO1 htr rfl rfl ⟨_, rfl, by rw [et2]; show (0 : Int) ≤ _; omega, by rw [et2]; show _ ≤ (1000 : Int); omega⟩ rfl
  refine ⟨h2, ?_, jg_G_tr G1 (jg_G_put G1.1 hO2 hz2 hn2 hg2 ha2 (by simp [jg_key]) (by simp)), fun b k m hb => by rw [hg2 b k m hb, hg1], hat2⟩
  rw [N119]
  simp (disch := first | omega | exact id rfl | exact jd_i | exact jd_r | exact jd_n | exact jd_f | decide | (simp (disch := omega) only [e1, e2, e3, f1, f2, f3, b1, et, Option.isSome_some])) only [e1, e2, e3, f1, f2, f3, b1, et, Option.isSome_some, Option.getD_some, Option.toList_some, Option.toList_none, List.cons_append, List.nil_append, E119_0, E119_1, E119_4, E119_7, E119_10, E119_11, E119_14, E119_15, E119_18, E119_19, E119_22, E119_23, E119_24, E119_24i, E119_25, E119_28, E119_29, E119_30, E119_33, if_false]
theorem jo_words {a1 a2 a3 a4 a5 : Int64} {w : Nat} (hI : jg_I 0 b0 s0 ρ h x) (hw : w ≤ 1000) (et : jo_tr h x w) : ∃ z h', jv_run (d + 3) 124 [.ref x, .long a1, .long a2, .long a3, .long a4, .long a5] h = some (some (.int z), h') ∧ jg_G 0 b0 s0 ρ h x ρ h' ∧ (jo_0 h x w → jo_0 h' x (if w + 5 ≤ 1000 then w + 5 else w)) := by
  have hO := hI.1
  have hx := hI.2.1
  obtain ⟨tr, e1, e2⟩ := et
  have htr : ρ tr = some 1 := by
    obtain ⟨p, e, hp⟩ := jg_ref (k := 0) hO hx rfl rfl
    rw [e1] at e
    cases e
    exact hp
  have hcl := jh_cl hO htr (q := 1) rfl
  have k1 : jv_run (d + 2) 117 [.ref tr, .int (nI 5)] h = some (some (.int (if nI 1000 < nI (w + 5) then nI 0 else nI 1)), h) := by
    rw [N117]
    simp (disch := first | omega | exact id rfl | exact jd_i | exact jd_r | exact jd_n | exact jd_f | decide | (simp (disch := omega) only [e2, nI_add, Option.isSome_some])) only [e2, nI_add, Option.isSome_some, Option.getD_some, Option.toList_some, Option.toList_none, List.cons_append, List.nil_append, E117_0, E117_1, E117_4, E117_5, E117_6, E117_9, E117_12, E117_13, E117_16, E117_17]
    split <;> rfl
  by_cases c1 : w + 5 ≤ 1000
  · have n1 : ¬ nI 1000 < nI (w + 5) := by rw [nI_ltI (by decide) (by omega)]; omega
    rw [if_neg n1] at k1
    obtain ⟨h1, f1, G1, g1, t1⟩ := jo_add (d := d) (v := a1) hI htr (by omega) e2
    obtain ⟨h2, f2, G2, g2, t2⟩ := jo_add (d := d) (v := a2) G1.1 htr (by omega) t1
    obtain ⟨h3, f3, G3, g3, t3⟩ := jo_add (d := d) (v := a3) G2.1 htr (by omega) t2
    obtain ⟨h4, f4, G4, g4, t4⟩ := jo_add (d := d) (v := a4) G3.1 htr (by omega) t3
    obtain ⟨h5, f5, G5, g5, t5⟩ := jo_add (d := d) (v := a5) G4.1 htr (by omega) t4
    have u1 : jv_gf h1 x 6 0 = some (.ref tr) := (g1 _ _ _ (by simp)).trans e1
    have u2 : jv_gf h2 x 6 0 = some (.ref tr) := (g2 _ _ _ (by simp)).trans u1
    have u3 : jv_gf h3 x 6 0 = some (.ref tr) := (g3 _ _ _ (by simp)).trans u2
    have u4 : jv_gf h4 x 6 0 = some (.ref tr) := (g4 _ _ _ (by simp)).trans u3
    have u5 : jv_gf h5 x 6 0 = some (.ref tr) := (g5 _ _ _ (by simp)).trans u4
    have l1 := jh_cl G1.1.1 htr (q := 1) rfl
    have l2 := jh_cl G2.1.1 htr (q := 1) rfl
    have l3 := jh_cl G3.1.1 htr (q := 1) rfl
    have l4 := jh_cl G4.1.1 htr (q := 1) rfl
    refine ⟨nI (w + 5), h5, ?_, jg_G_tr G1 (jg_G_tr G2 (jg_G_tr G3 (jg_G_tr G4 G5))), fun q => ?_⟩
    · have n2 : ¬ nI 1 = (0 : Int32) := by decide
      rw [N124]
      simp (disch := first | omega | exact id rfl | exact jd_i | exact jd_r | exact jd_n | exact jd_f | decide | (simp (disch := omega) only [e1, k1, hcl, n2, f1, f2, f3, f4, f5, u1, u2, u3, u4, u5, l1, l2, l3, l4, t5, Option.isSome_some])) only [e1, k1, hcl, n2, f1, f2, f3, f4, f5, u1, u2, u3, u4, u5, l1, l2, l3, l4, t5, Option.isSome_some, Option.getD_some, Option.toList_some, Option.toList_none, List.cons_append, List.nil_append, E124_0, E124_1, E124_4, E124_5, E124_8, E124_11, E124_12, E124_13, E124_14, E124_17, E124_18, E124_21, E124_22, E124_25, E124_26, E124_29, E124_30, E124_33, E124_35, E124_38, E124_39, E124_42, E124_44, E124_47, E124_48, E124_51, E124_53, E124_56, E124_57, E124_60, E124_63, if_true, not_false_eq_true]
    · rw [if_pos c1]
      obtain ⟨_, q1, q2, q3, _⟩ := q
      have all : ∀ k, jv_gf h5 x 6 k = jv_gf h x 6 k := fun k => by
        rw [g5 _ _ _ (by simp), g4 _ _ _ (by simp), g3 _ _ _ (by simp), g2 _ _ _ (by simp), g1 _ _ _ (by simp)]
      exact ⟨c1, by rw [all]; exact q1, by rw [all]; exact q2, by rw [all]; exact q3, tr, u5, t5⟩
  · have n1 : nI 1000 < nI (w + 5) := by rw [nI_ltI (by decide) (by omega)]; omega
    rw [if_pos n1] at k1
    refine ⟨-1, h, ?_, jg_G_rf hI, fun q => by rw [if_neg c1]; exact q⟩
    have n2 : nI 0 = (0 : Int32) := rfl
    rw [N124]
    simp (disch := first | omega | exact id rfl | exact jd_i | exact jd_r | exact jd_n | exact jd_f | decide | (simp (disch := omega) only [e1, k1, hcl, n2, Option.isSome_some])) only [e1, k1, hcl, n2, Option.isSome_some, Option.getD_some, Option.toList_some, Option.toList_none, List.cons_append, List.nil_append, E124_0, E124_1, E124_4, E124_5, E124_8, E124_11, E124_12, if_false, not_true_eq_false]
end JG
