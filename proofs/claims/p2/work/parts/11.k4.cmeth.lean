/-! a method that the checker takes keeps its types -/
section JK
variable {RT : List jk_D} {pr : Nat → Nat → Bool} {sg : jk_G} {rt : Option jk_T} {ρ : jk_R} {M n pc : Nat} {l0 ls : jv_L} {al : jk_AL} {as : jk_AS} {st : List Value} {h : jv_H} {call : jv_F} {su : List jk_A} {v : Value}
theorem jk_ins_ok (hc : ∀ y, jk_Sp RT pr sg call y) {i : Instr} (hs : jk_ins RT pr sg rt M i n pc al as = some su) (hL : jk_L ρ l0 al ls) (hS : jk_S ρ ls as st) (hO : jk_Ok RT ρ h) : jk_Nx RT pr rt ρ l0 h su (jv_ins call M i n pc ls st h) := by
  cases i
  case aconst_null => exact jk_ps_ok hs rfl jk_nos hL hS hO
  case iconst v => exact jk_ps_ok hs (jk_V_ps rfl) jk_nos hL hS hO
  case bipush v => exact jk_ps_ok hs (jk_V_ps rfl) jk_nos hL hS hO
  case sipush v => exact jk_ps_ok hs (jk_V_ps rfl) jk_nos hL hS hO
  case lconst v => exact jk_ps_ok hs ⟨_, rfl⟩ jk_nos hL hS hO
  case ldc k =>
    simp only [jk_ins] at hs
    split at hs
    · rename_i v e
      simp only [jv_ins, e]
      exact jk_ps_ok hs (jk_V_ps rfl) jk_nos hL hS hO
    · cases hs
  case ldc2_w k =>
    simp only [jk_ins] at hs
    split at hs
    · rename_i v e
      simp only [jv_ins, e]
      exact jk_ps_ok hs ⟨_, rfl⟩ jk_nos hL hS hO
    · cases hs
  case iload k => exact jk_ldi_ok hs hL hS hO
  case iload_n k => exact jk_ldi_ok hs hL hS hO
  case lload k => exact jk_ldl_ok hs hL hS hO
  case lload_n k => exact jk_ldl_ok hs hL hS hO
  case aload k => exact jk_lda_ok hs hL hS hO
  case aload_n k => exact jk_lda_ok hs hL hS hO
  case istore k => exact jk_sti_ok hs hL hS hO
  case istore_n k => exact jk_sti_ok hs hL hS hO
  case lstore k => exact jk_stl_ok hs hL hS hO
  case lstore_n k => exact jk_stl_ok hs hL hS hO
  case astore k => exact jk_sta_ok hs hL hS hO
  case astore_n k => exact jk_sta_ok hs hL hS hO
  case iinc k c => exact jk_i_iinc hs hL hS hO
  case iadd => exact jk_b2_ok (f := jk_fadd) (g := fun x y => x + y) (fun X Y x y t hx hy e => by unfold jk_fadd at e; cases e; exact jk_V_add hx hy) hs hL hS hO
  case isub => exact jk_b2_ok (f := jk_fsub) (g := fun x y => x - y) (fun X Y x y t hx hy e => by unfold jk_fsub at e; cases e; exact jk_V_subt hx hy) hs hL hS hO
  case imul => exact jk_b2_ok (f := jk_fmul) (g := fun x y => x * y) (fun X Y x y t hx hy e => jk_V_mul hx hy e) hs hL hS hO
  case iand => exact jk_b2_ok (f := jk_fand) (g := fun x y => x &&& y) (fun X Y x y t hx hy e => jk_V_and hx hy e) hs hL hS hO
  case ixor => exact jk_b2_ok (f := jk_fany) (g := fun x y => x ^^^ y) (fun X Y x y t hx hy e => by unfold jk_fany at e; cases e; exact jk_V_top) hs hL hS hO
  case ishl => exact jk_b2_ok (f := jk_fany) (g := fun x y => x <<< (y &&& 31)) (fun X Y x y t hx hy e => by unfold jk_fany at e; cases e; exact jk_V_top) hs hL hS hO
  case ishr => exact jk_b2_ok (f := jk_fany) (g := fun x y => x >>> (y &&& 31)) (fun X Y x y t hx hy e => by unfold jk_fany at e; cases e; exact jk_V_top) hs hL hS hO
  case idiv =>
    obtain ⟨X, Y, x, y, as', vs, t, rfl, hx, hy, hf, hp, hS'⟩ := jk_o2_inv hs hS
    have hd := jk_V_div (ρ := ρ) hx hy hf
    simp only [jv_ins]
    rw [if_neg hd.1]
    exact jk_ps_ok hp hd.2 jk_nos hL hS' hO
  case irem =>
    obtain ⟨X, Y, x, y, as', vs, t, rfl, hx, hy, hf, hp, hS'⟩ := jk_o2_inv hs hS
    have hd := jk_V_rem (ρ := ρ) (z := x - x / y * y) hy hf
    simp only [jv_ins]
    rw [if_neg hd.1]
    exact jk_ps_ok hp hd.2 jk_nos hL hS' hO
  case ladd => exact jk_l2_ok hs hL hS hO
  case lsub => exact jk_l2_ok hs hL hS hO
  case lmul => exact jk_l2_ok hs hL hS hO
  case land => exact jk_l2_ok hs hL hS hO
  case lor => exact jk_l2_ok hs hL hS hO
  case lneg =>
    simp only [jk_ins] at hs
    split at hs
    · obtain ⟨v, vs, rfl, hv, _, hS'⟩ := jk_S_cons hS
      obtain ⟨y, rfl⟩ := hv
      exact jk_ps_ok hs ⟨_, rfl⟩ jk_nos hL hS' hO
    · cases hs
  case lshl =>
    simp only [jk_ins] at hs
    split at hs
    · obtain ⟨v, vs, rfl, hv, _, hS'⟩ := jk_S_cons hS
      obtain ⟨w, ws, rfl, hw, _, hS2⟩ := jk_S_cons hS'
      obtain ⟨y, rfl, _⟩ := hv
      obtain ⟨x, rfl⟩ := hw
      exact jk_ps_ok hs ⟨_, rfl⟩ jk_nos hL hS2 hO
    · cases hs
  case lshr =>
    simp only [jk_ins] at hs
    split at hs
    · obtain ⟨v, vs, rfl, hv, _, hS'⟩ := jk_S_cons hS
      obtain ⟨w, ws, rfl, hw, _, hS2⟩ := jk_S_cons hS'
      obtain ⟨y, rfl, _⟩ := hv
      obtain ⟨x, rfl⟩ := hw
      exact jk_ps_ok hs ⟨_, rfl⟩ jk_nos hL hS2 hO
    · cases hs
  case lcmp =>
    simp only [jk_ins] at hs
    split at hs
    · obtain ⟨v, vs, rfl, hv, _, hS'⟩ := jk_S_cons hS
      obtain ⟨w, ws, rfl, hw, _, hS2⟩ := jk_S_cons hS'
      obtain ⟨y, rfl⟩ := hv
      obtain ⟨x, rfl⟩ := hw
      exact jk_ps_ok hs jk_V_top jk_nos hL hS2 hO
    · cases hs
  case i2l =>
    simp only [jk_ins] at hs
    split at hs
    · obtain ⟨v, vs, rfl, hv, _, hS'⟩ := jk_S_cons hS
      obtain ⟨y, rfl, _⟩ := hv
      exact jk_ps_ok hs ⟨_, rfl⟩ jk_nos hL hS' hO
    · cases hs
  case l2i =>
    simp only [jk_ins] at hs
    split at hs
    · obtain ⟨v, vs, rfl, hv, _, hS'⟩ := jk_S_cons hS
      obtain ⟨y, rfl⟩ := hv
      exact jk_ps_ok hs jk_V_top jk_nos hL hS' hO
    · cases hs
  case dup =>
    simp only [jk_ins] at hs
    split at hs
    · split at hs
      · rename_i hw
        obtain ⟨v, vs, rfl, hv, hsrc, hS'⟩ := jk_S_cons hS
        simp only [jv_ins]
        rw [if_pos ((jk_V_w hv).trans (eq_of_beq hw))]
        exact jk_ps_ok hs hv hsrc hL ⟨hv, hsrc, hS'⟩ hO
      · cases hs
    · cases hs
  case dup2 =>
    simp only [jk_ins] at hs
    split at hs
    · split at hs
      · rename_i hw
        simp only [Bool.and_eq_true, beq_iff_eq] at hw
        cases hs
        obtain ⟨v, vs, rfl, hv, hsrc, hS'⟩ := jk_S_cons hS
        obtain ⟨u, us, rfl, hu, hsrc', hS2⟩ := jk_S_cons hS'
        simp only [jv_ins]
        rw [if_pos ⟨(jk_V_w hv).trans hw.1.1, (jk_V_w hu).trans hw.1.2⟩, jk_len hw.2]
        exact jk_one (List.mem_singleton.mpr rfl) hL ⟨hv, hsrc, hu, hsrc', hv, hsrc, hu, hsrc', hS2⟩ hO (jk_Fr_rf h)
      · cases hs
    · cases hs
  case pop =>
    simp only [jk_ins] at hs
    split at hs
    · split at hs
      · rename_i hw
        simp only [Bool.and_eq_true, beq_iff_eq] at hw
        cases hs
        obtain ⟨v, vs, rfl, hv, hsrc, hS'⟩ := jk_S_cons hS
        simp only [jv_ins]
        rw [if_pos ((jk_V_w hv).trans hw.1), jk_len hw.2]
        exact jk_one (List.mem_singleton.mpr rfl) hL hS' hO (jk_Fr_rf h)
      · cases hs
    · cases hs
  case goto off =>
    simp only [jk_ins] at hs
    split at hs
    · rename_i t e
      split at hs
      · rename_i hn
        cases hs
        simp only [jv_ins]
        rw [jk_len (eq_of_beq hn)]
        exact jk_goto e (List.mem_singleton.mpr rfl) hL hS hO
      · cases hs
    · cases hs
  case if_icmp c off =>
    simp only [jk_ins] at hs
    split at hs
    · obtain ⟨v, vs, rfl, hv, hsy, hS'⟩ := jk_S_cons hS
      obtain ⟨w, ws, rfl, hw, hsx, hS2⟩ := jk_S_cons hS'
      obtain ⟨y, rfl, y1, y2⟩ := hv
      obtain ⟨x, rfl, x1, x2⟩ := hw
      exact jk_cj_ok hs ⟨x1, x2⟩ ⟨y1, y2⟩ hsx hsy hL hS2 hO
    · cases hs
  case ifCond c off =>
    simp only [jk_ins] at hs
    split at hs
    · obtain ⟨w, ws, rfl, hw, hsx, hS'⟩ := jk_S_cons hS
      obtain ⟨x, rfl, x1, x2⟩ := hw
      exact jk_cj_ok (y := 0) hs ⟨x1, x2⟩ ⟨by decide, by decide⟩ hsx jk_nos hL hS' hO
    · cases hs
  case if_acmp cd off => exact jk_i_acmp hs hL hS hO
  case ifnull off => exact jk_i_null hs hL hS hO
  case ifnonnull off => exact jk_i_nonnull hs hL hS hO
  case tableswitch d lo hi offs => exact jk_i_table hs hL hS hO
  case lookupswitch d ps => exact jk_i_lookup hs hL hS hO
  case getfield k => exact jk_i_get hs hL hS hO
  case putfield k => exact jk_i_put hs hL hS hO
  case arraylength =>
    simp only [jk_ins] at hs
    split at hs
    · split at hs
      · rename_i q kd lo e he
        obtain ⟨v, vs, rfl, hv, _, hS'⟩ := jk_S_cons hS
        obtain ⟨a, len, f, rfl, ha, hr, hcell, hlo, hle, hf⟩ := jk_ar_ok he hv hO
        have hln : jv_ln h a = some len := by
          unfold jv_ln
          rw [hcell]
        simp only [jv_ins, hln]
        have e1 : (Int32.ofNat len).toInt = (len : Int) := nI_toInt (by omega)
        exact jk_ps_ok hs ⟨_, rfl, by rw [e1]; show (lo : Int) ≤ _; omega, by rw [e1]; show _ ≤ (100000 : Int); omega⟩ jk_nos hL hS' hO
      · cases hs
    · cases hs
  case iaload =>
    obtain ⟨j, a, vs, ty, kd, v, rfl, hp, hty, hscr, hcell, hal, hN⟩ := jk_al_ok (pr := pr) (rt := rt) hs hL hS hO
    have e : ty = .int := by cases ty <;> first | rfl | cases hp
    subst e
    simp only [jv_ins, hal]
    exact hN
  case laload =>
    obtain ⟨j, a, vs, ty, kd, v, rfl, hp, hty, hscr, hcell, hal, hN⟩ := jk_al_ok (pr := pr) (rt := rt) hs hL hS hO
    have e : ty = .long := by cases ty <;> first | rfl | cases hp
    subst e
    simp only [jv_ins, hal]
    exact hN
  case baload =>
    obtain ⟨j, a, vs, ty, kd, v, rfl, hp, hty, hscr, hcell, hal, hN⟩ := jk_al_ok (pr := pr) (rt := rt) hs hL hS hO
    have e : ty = .boolean := by cases ty <;> first | rfl | cases hp
    subst e
    simp only [jv_ins, hal]
    exact hN
  case aaload =>
    obtain ⟨j, a, vs, ty, kd, v, rfl, hp, hty, hscr, hcell, hal, hN⟩ := jk_al_ok (pr := pr) (rt := rt) hs hL hS hO
    obtain ⟨C, rfl⟩ := jk_isO_inv hp
    simp only [jv_ins, jk_kn_ok hcell hscr hty, hal]
    exact hN
  case iastore =>
    obtain ⟨v, j, a, vs, ty, kd, tv, h', rfl, hv, hfit, hp, hty, hscr, hcell, has, hC, hN⟩ := jk_as_ok (rt := rt) hs hL hS hO
    have e : ty = .int := by cases ty <;> first | rfl | cases hp
    subst e
    have hk : jk_kd tv = 0 := by
      rcases tv with a | a | a
      · rfl
      · cases a <;> cases hfit
      · cases hfit
    obtain ⟨X, x, _, rfl, _⟩ := jk_kd0 hk hv
    simp only [jv_ins, has]
    exact hN
  case lastore =>
    obtain ⟨v, j, a, vs, ty, kd, tv, h', rfl, hv, hfit, hp, hty, hscr, hcell, has, hC, hN⟩ := jk_as_ok (rt := rt) hs hL hS hO
    have e : ty = .long := by cases ty <;> first | rfl | cases hp
    subst e
    have hk : jk_kd tv = 1 := by
      rcases tv with a | a | a
      · cases hfit
      · cases a
        · cases hfit
        · rfl
      · cases hfit
    obtain ⟨x, _, rfl⟩ := jk_kd1 hk hv
    simp only [jv_ins, has]
    exact hN
  case bastore =>
    obtain ⟨v, j, a, vs, ty, kd, tv, h', rfl, hv, hfit, hp, hty, hscr, hcell, has, hC, hN⟩ := jk_as_ok (rt := rt) hs hL hS hO
    have e : ty = .boolean := by cases ty <;> first | rfl | cases hp
    subst e
    have hk : jk_kd tv = 0 := by
      rcases tv with a | a | a
      · rfl
      · cases a <;> cases hfit
      · cases hfit
    have hn := (jk_fit_ok hfit hv).1
    obtain ⟨X, x, _, rfl, _⟩ := jk_kd0 hk hv
    simp only [jv_ins, hn, has]
    exact hN
  case aastore =>
    obtain ⟨v, j, a, vs, ty, kd, tv, h', rfl, hv, hfit, hp, hty, hscr, hcell, has, hC, hN⟩ := jk_as_ok (rt := rt) hs hL hS hO
    obtain ⟨C, rfl⟩ := jk_isO_inv hp
    simp only [jv_ins, jk_kn_ok hcell hscr hty, jk_isA_ok (hC C rfl) hv hO, if_true, has]
    exact hN
  case invokevirtual k => exact jk_i_virt hc hs hL hS hO
  case invokestatic k => exact jk_i_stat hc hs hL hS hO
  case ireturn => exact jk_i_iret hs hS
  case lreturn => exact jk_i_lret hs hS
  case areturn => exact jk_i_aret hs hS
  case return_ => exact jk_i_ret hs hS
  all_goals (simp only [jk_ins] at hs; cases hs)
/-! the number that falls -/
def jk_sum (ls : jv_L) : List (Nat × Int) → Int
  | [] => 0
  | q :: t => q.2 * jk_x ls q.1 + jk_sum ls t
def jk_mu (e : jk_N) (ls : jv_L) : Int := e.2.2.1 - jk_sum ls e.2.2.2
theorem jk_0_get {ts : List (Option jk_T)} {k : Nat} {t : jk_T} (e : ts[k]? = some (some t)) : (jk_0 ts)[k]? = some (some (t, some 0)) := by
  unfold jk_0
  rw [List.getElem?_map, e]
  rfl
theorem jk_x_in {k : Nat} {b : Int × Int} {δ : Option Int} (hL : jk_L ρ l0 al ls) (e : al[k]? = some (some (.inl b, δ))) : b.1 ≤ jk_x ls k ∧ jk_x ls k ≤ b.2 := by
  obtain ⟨v, e1, hv, _⟩ := hL.2 k _ δ e
  obtain ⟨x, rfl, h1, h2⟩ := hv
  have : jk_x ls k = x.toInt := by unfold jk_x; rw [e1]
  rw [this]
  exact ⟨h1, h2⟩
theorem jk_tm_ok {ts : List (Option jk_T)} {k : Nat} {a a' x : Int} (h0 : jk_L ρ l0 (jk_0 ts) l0) (hL : al = [] ∧ a' = 0 ∨ jk_L ρ l0 al ls) (e : jk_tm ts al k a a' = some x) : x ≤ a' * jk_x ls k - a * jk_x l0 k := by
  have hmul : ∀ {p q r : Int}, 0 ≤ p → q ≤ r → p * q ≤ p * r := fun hp hq => Int.mul_le_mul_of_nonneg_left hq hp
  unfold jk_tm at e
  split at e
  · rename_i hz
    simp only [Bool.and_eq_true, beq_iff_eq] at hz
    cases e
    rw [hz.1, hz.2]
    simp
  · split at e
    · rename_i b' d hal
      have hL : jk_L ρ l0 al ls := by
        rcases hL with ⟨q, _⟩ | q
        · rw [q] at hal; simp at hal
        · exact q
      have hx := jk_x_in hL hal
      split at e
      · rename_i hz
        have hz := eq_of_beq hz
        cases e
        obtain ⟨v, e1, hv, hd⟩ := hL.2 k _ _ hal
        rw [hd d rfl, ← hz, Int.mul_add]
        omega
      · split at e
        · rename_i b hb
          have hy := jk_x_in h0 (jk_0_get hb)
          split at e
          · rename_i hz
            simp only [Bool.and_eq_true, decide_eq_true_eq] at hz
            cases e
            have := hmul hz.2 hx.1
            have := hmul hz.1 hy.2
            omega
          · cases e
        · split at e
          · rename_i hz
            simp only [Bool.and_eq_true, beq_iff_eq, decide_eq_true_eq] at hz
            cases e
            have := hmul hz.2 hx.1
            rw [hz.1, Int.zero_mul]
            omega
          · cases e
    · rename_i b' hal
      have hL : jk_L ρ l0 al ls := by
        rcases hL with ⟨q, _⟩ | q
        · rw [q] at hal; simp at hal
        · exact q
      have hx := jk_x_in hL hal
      split at e
      · rename_i b hb
        have hy := jk_x_in h0 (jk_0_get hb)
        split at e
        · rename_i hz
          simp only [Bool.and_eq_true, decide_eq_true_eq] at hz
          cases e
          have := hmul hz.2 hx.1
          have := hmul hz.1 hy.2
          omega
        · cases e
      · split at e
        · rename_i hz
          simp only [Bool.and_eq_true, beq_iff_eq, decide_eq_true_eq] at hz
          cases e
          have := hmul hz.2 hx.1
          rw [hz.1, Int.zero_mul]
          omega
        · cases e
    · split at e
      · rename_i b hb
        have hy := jk_x_in h0 (jk_0_get hb)
        split at e
        · rename_i hz
          simp only [Bool.and_eq_true, beq_iff_eq, decide_eq_true_eq] at hz
          cases e
          have := hmul hz.2 hy.2
          rw [hz.1, Int.zero_mul, Int.neg_mul]
          omega
        · cases e
      · cases e
theorem jk_lw_ok {ts : List (Option jk_T)} (h0 : jk_L ρ l0 (jk_0 ts) l0) (hL : jk_L ρ l0 al ls) : ∀ (s t : List (Nat × Int)) (x : Int), jk_lw ts al s t = some x → x ≤ jk_sum ls t - jk_sum l0 s
  | [], [], x, e => by
    cases e
    simp [jk_sum]
  | [], _ :: _, _, e => by simp [jk_lw] at e
  | _ :: _, [], _, e => by simp [jk_lw] at e
  | (k, a) :: s, (k', a') :: t, x, e => by
    unfold jk_lw at e
    split at e
    · rename_i hk
      have hk := eq_of_beq hk
      subst hk
      split at e
      · rename_i p q hp hq
        cases e
        have h1 := jk_tm_ok h0 (Or.inr hL) hp
        have h2 := jk_lw_ok h0 hL s t q hq
        simp only [jk_sum]
        omega
      · cases e
    · cases e
theorem jk_lp_ok {ts : List (Option jk_T)} (h0 : jk_L ρ l0 (jk_0 ts) l0) : ∀ (s : List (Nat × Int)) (x : Int), jk_lw ts [] s (s.map fun q => (q.1, 0)) = some x → x ≤ - jk_sum l0 s
  | [], x, e => by
    cases e
    simp [jk_sum]
  | (k, a) :: s, x, e => by
    rw [List.map_cons] at e
    unfold jk_lw at e
    split at e
    · split at e
      · rename_i p q hp hq
        cases e
        have h1 := jk_tm_ok (ls := l0) h0 (Or.inl ⟨rfl, rfl⟩) hp
        have h2 := jk_lp_ok h0 s q hq
        simp only [jk_sum]
        rw [Int.zero_mul] at h1
        omega
      · cases e
    · cases e
theorem jk_sL_ok : ∀ {al : jk_AL} {ts : List (Option jk_T)}, jk_sL al ts = true → al.length = ts.length ∧ ∀ (k : Nat) (t : jk_T), ts[k]? = some (some t) → ∃ s δ, al[k]? = some (some (s, δ)) ∧ jk_sub s t = true
  | [], [], _ => ⟨rfl, fun k t e => by simp at e⟩
  | [], none :: _, e => by simp [jk_sL] at e
  | [], some _ :: _, e => by simp [jk_sL] at e
  | _ :: _, [], e => by simp [jk_sL] at e
  | a :: al, none :: ts, e => by
    have ih := jk_sL_ok (al := al) (ts := ts) (by simpa [jk_sL] using e)
    refine ⟨by simp [ih.1], fun k t q => ?_⟩
    cases k with
    | zero => simp at q
    | succ k =>
      simp only [List.getElem?_cons_succ] at q ⊢
      exact ih.2 k t q
  | none :: al, some _ :: ts, e => by simp [jk_sL] at e
  | some (s, δ) :: al, some t :: ts, e => by
    simp only [jk_sL, Bool.and_eq_true] at e
    have ih := jk_sL_ok (al := al) (ts := ts) e.2
    refine ⟨by simp [ih.1], fun k t' q => ?_⟩
    cases k with
    | zero =>
      simp only [List.getElem?_cons_zero, Option.some.injEq] at q ⊢
      subst q
      exact ⟨s, δ, rfl, e.1⟩
    | succ k =>
      simp only [List.getElem?_cons_succ] at q ⊢
      exact ih.2 k t' q
theorem jk_new {ts : List (Option jk_T)} (hl : ls.length = ts.length) (hv : ∀ (k : Nat) (t : jk_T), ts[k]? = some (some t) → ∃ v, ls[k]? = some (some v) ∧ jk_V ρ t v) : jk_L ρ ls (jk_0 ts) ls := by
  refine ⟨by rw [hl]; simp [jk_0], fun k t δ e => ?_⟩
  unfold jk_0 at e
  rw [List.getElem?_map] at e
  cases ht : ts[k]? with
  | none => rw [ht] at e; cases e
  | some o =>
    rw [ht] at e
    cases o with
    | none => cases e
    | some t' =>
      cases e
      obtain ⟨v, e1, hv'⟩ := hv k t ht
      exact ⟨v, e1, hv', fun d q => by cases q; simp⟩
theorem jk_anew {ts : List (Option jk_T)} (hL : jk_L ρ l0 al ls) (hs : jk_sL al ts = true) : jk_L ρ ls (jk_0 ts) ls := by
  have hq := jk_sL_ok hs
  refine jk_new (hL.1.trans hq.1) (fun k t e => ?_)
  obtain ⟨s, δ, e1, e2⟩ := hq.2 k t e
  obtain ⟨v, e3, hv, _⟩ := hL.2 k s δ e1
  exact ⟨v, e3, jk_V_sub e2 hv⟩
theorem jk_go_ok (hc : ∀ y, jk_Sp RT pr sg call y) (an : List jk_N) (e : jk_N) (h0 : jk_L ρ l0 (jk_0 e.2.1) l0) (IH : ∀ e' ∈ an, ∀ (ls' : jv_L) (h' : jv_H), jk_L ρ ls' (jk_0 e'.2.1) ls' → jk_Ok RT ρ h' → jk_mu e' ls' < jk_mu e l0 → jk_Gd RT pr rt ρ h' (jv_ev call M e'.1 ls' [] h')) : ∀ (f pc : Nat) (al : jk_AL) (as : jk_AS) (ls : jv_L) (st : List Value) (h : jv_H), jk_go RT pr sg rt M an e f (pc, al, as) = true → jk_L ρ l0 al ls → jk_S ρ ls as st → jk_Ok RT ρ h → jk_Gd RT pr rt ρ h (jv_ev call M pc ls st h)
  | 0, _, _, _, _, _, _, hg, _, _, _ => by simp [jk_go] at hg
  | f + 1, pc, al, as, ls, st, h, hg, hL, hS, hO => by
    unfold jk_go at hg
    split at hg
    · rename_i i n hd
      split at hg
      · rename_i su hsu
        rw [je_of hd]
        rcases jk_ins_ok (call := call) hc hsu hL hS hO with ⟨pc', ls', st', h', al', as', e1, hm, hO', hF, hL', hS'⟩ | ⟨r, e1, hR⟩
        · rw [e1]
          have ha := List.all_eq_true.mp hg _ hm
          split at ha
          · rename_i e' hfind
            simp only [Bool.and_eq_true] at ha
            have hmem := List.mem_of_find?_eq_some hfind
            have hpc : e'.1 = pc' := by simpa using List.find?_some hfind
            have has : as' = [] := List.isEmpty_iff.mp ha.1.1
            subst has
            have hst := jk_S_nil hS'
            subst hst
            have hL2 := jk_anew hL' ha.1.2
            have hfall : jk_mu e' ls' < jk_mu e l0 := by
              have hf := ha.2
              unfold jk_fall at hf
              split at hf
              · rename_i x hx
                have h1 := jk_lw_ok h0 hL' _ _ x hx
                have h2 := of_decide_eq_true hf
                unfold jk_mu
                omega
              · cases hf
            obtain ⟨r, h2, e2, hO2, hF2, hR2⟩ := IH e' hmem ls' h' hL2 hO' hfall
            rw [hpc] at e2
            exact ⟨r, h2, e2, hO2, jk_Fr_tr hF hF2, hR2⟩
          · obtain ⟨r, h2, e2, hO2, hF2, hR2⟩ := jk_go_ok hc an e h0 IH f pc' al' as' ls' st' h' ha hL' hS' hO'
            exact ⟨r, h2, e2, hO2, jk_Fr_tr hF hF2, hR2⟩
        · rw [e1]
          exact ⟨r, h, rfl, hO, jk_Fr_rf h, hR⟩
      · cases hg
    · cases hg
theorem jk_an_ok (hc : ∀ y, jk_Sp RT pr sg call y) (an : List jk_N) (f : Nat) (hall : ∀ e ∈ an, jk_pos e = true ∧ jk_go RT pr sg rt M an e f (e.1, jk_0 e.2.1, []) = true) : ∀ (N : Nat) (e : jk_N), e ∈ an → ∀ (ls : jv_L) (h : jv_H), jk_L ρ ls (jk_0 e.2.1) ls → jk_Ok RT ρ h → jk_mu e ls < (N : Int) → jk_Gd RT pr rt ρ h (jv_ev call M e.1 ls [] h)
  | 0, e, he, ls, h, hL, hO, hN => by
    exfalso
    have hp := (hall e he).1
    unfold jk_pos at hp
    split at hp
    · rename_i x hx
      have h1 := jk_lp_ok hL _ x hx
      have h2 := of_decide_eq_true hp
      unfold jk_mu at hN
      omega
    · cases hp
  | N + 1, e, he, ls, h, hL, hO, hN => jk_go_ok hc an e hL (fun e' he' ls' h' hL' hO' hlt => jk_an_ok hc an f hall N e' he' ls' h' hL' hO' (by omega)) f e.1 _ [] ls [] h (hall e he).2 hL True.intro hO
/-! a method's entry -/
def jk_en : List jk_T → Nat → List (Option jk_T)
  | [], ml => List.replicate ml none
  | t :: ts, ml => if jk_w t == 2 then some t :: none :: jk_en ts (ml - 2) else some t :: jk_en ts (ml - 1)
def jk_wd : List jk_T → Nat
  | [] => 0
  | t :: ts => jk_w t + jk_wd ts
theorem jk_wd_c {t : jk_T} {ts : List jk_T} : jk_wd (t :: ts) = jk_w t + jk_wd ts := rfl
theorem jk_sl_len : ∀ {ts : List jk_T} {vs : List Value}, jk_Vs ρ ts vs → (jv_sl vs).length = jk_wd ts
  | [], [], _ => rfl
  | [], _ :: _, hv => hv.elim
  | _ :: _, [], hv => hv.elim
  | t :: ts, v :: vs, hv => by
    have ih := jk_sl_len hv.2
    have hw := jk_V_w hv.1
    unfold jv_sl at ih ⊢
    rw [List.flatMap_cons, List.length_append, ih]
    rw [jk_wd_c, ← hw]
    split
    · rename_i q; rw [q]; rfl
    · rename_i q
      have : v.category = 1 ∨ v.category = 2 := by cases v <;> first | exact Or.inl rfl | exact Or.inr rfl
      rcases this with q' | q'
      · rw [q']; rfl
      · exact absurd q' q
def jk_LL (ρ : jk_R) : List (Option jk_T) → jv_L → Prop
  | [], [] => True
  | none :: ts, _ :: ls => jk_LL ρ ts ls
  | some t :: ts, o :: ls => (∃ v, o = some v ∧ jk_V ρ t v) ∧ jk_LL ρ ts ls
  | _, _ => False
theorem jk_LL_rep : ∀ n, jk_LL ρ (List.replicate n none) (List.replicate n none)
  | 0 => True.intro
  | n + 1 => jk_LL_rep n
theorem jk_LL_get : ∀ {ts : List (Option jk_T)} {ls : jv_L}, jk_LL ρ ts ls → ls.length = ts.length ∧ ∀ (k : Nat) (t : jk_T), ts[k]? = some (some t) → ∃ v, ls[k]? = some (some v) ∧ jk_V ρ t v
  | [], [], _ => ⟨rfl, fun k t e => by simp at e⟩
  | [], _ :: _, hl => hl.elim
  | none :: _, [], hl => hl.elim
  | some _ :: _, [], hl => hl.elim
  | none :: ts, o :: ls, hl => by
    have ih := jk_LL_get (ts := ts) (ls := ls) hl
    refine ⟨by simp [ih.1], fun k t e => ?_⟩
    cases k with
    | zero => simp at e
    | succ k =>
      simp only [List.getElem?_cons_succ] at e ⊢
      exact ih.2 k t e
  | some t :: ts, o :: ls, hl => by
    have ih := jk_LL_get (ts := ts) (ls := ls) hl.2
    refine ⟨by simp [ih.1], fun k t' e => ?_⟩
    cases k with
    | zero =>
      simp only [List.getElem?_cons_zero, Option.some.injEq] at e ⊢
      subst e
      obtain ⟨v, e1, hv⟩ := hl.1
      exact ⟨v, e1, hv⟩
    | succ k =>
      simp only [List.getElem?_cons_succ] at e ⊢
      exact ih.2 k t' e
theorem jk_LL_ent : ∀ {ts : List jk_T} {vs : List Value} (ml : Nat), jk_Vs ρ ts vs → jk_wd ts ≤ ml → jk_LL ρ (jk_en ts ml) (jv_sl vs ++ List.replicate (ml - jk_wd ts) none)
  | [], [], ml, _, _ => jk_LL_rep ml
  | [], _ :: _, _, hv, _ => hv.elim
  | _ :: _, [], _, hv, _ => hv.elim
  | t :: ts, v :: vs, ml, hv, hw => by
    have hc := jk_V_w hv.1
    rw [jk_wd_c] at hw
    have e1 : jv_sl (v :: vs) = (if v.category = 2 then [some v, none] else [some v]) ++ jv_sl vs := List.flatMap_cons
    unfold jk_en
    rw [e1]
    by_cases h2 : jk_w t = 2
    · rw [if_pos (beq_iff_eq.mpr h2), if_pos (hc.trans h2)]
      have ih := jk_LL_ent (ml - 2) hv.2 (by omega)
      rw [show ml - jk_wd (t :: ts) = ml - 2 - jk_wd ts by rw [jk_wd_c]; omega]
      exact ⟨⟨v, rfl, hv.1⟩, ih⟩
    · have h1 : jk_w t = 1 := by
        rcases t with a | a | a
        · rfl
        · cases a
          · rfl
          · exact absurd rfl h2
        · rfl
      rw [if_neg (fun q => h2 (eq_of_beq q)), if_neg (by rw [hc]; exact h2)]
      have ih := jk_LL_ent (ml - 1) hv.2 (by omega)
      rw [show ml - jk_wd (t :: ts) = ml - 1 - jk_wd ts by rw [jk_wd_c]; omega]
      exact ⟨⟨v, rfl, hv.1⟩, ih⟩
/-- the whole check of a method -/
def jk_chk (RT : List jk_D) (pr : Nat → Nat → Bool) (sg : jk_G) (ats : List jk_T) (rt : Option jk_T) (M f : Nat) (c : Int) (cs : List (Nat × Int)) (an : List jk_N) : Bool :=
  decide (jk_wd ats ≤ jt_maxL M) && ((0, jk_en ats (jt_maxL M), c, cs) :: an).all fun e => jk_pos e && jk_go RT pr sg rt M ((0, jk_en ats (jt_maxL M), c, cs) :: an) e f (e.1, jk_0 e.2.1, [])
theorem jk_meth {d f : Nat} {c : Int} {cs : List (Nat × Int)} {an : List jk_N} {ats : List jk_T} {sg' : jk_G} (hM : sg M = some (ats, rt)) (hk : jk_chk RT pr sg' ats rt M f c cs an = true) (hc : ∀ y, jk_Sp RT pr sg' (jv_run d) y) : jk_Sp RT pr sg (jv_run (d + 1)) M := by
  intro ats' rt' hsg ρ h as hO hV
  rw [hM] at hsg
  cases hsg
  unfold jk_chk at hk
  rw [Bool.and_eq_true] at hk
  have hw := of_decide_eq_true hk.1
  have hsl := jk_sl_len hV
  rw [jv_run_eq (by rw [hsl]; exact hw) rfl]
  have hall : ∀ e ∈ (0, jk_en ats (jt_maxL M), c, cs) :: an, jk_pos e = true ∧ jk_go RT pr sg' rt M ((0, jk_en ats (jt_maxL M), c, cs) :: an) e f (e.1, jk_0 e.2.1, []) = true := fun e he => by
    have := List.all_eq_true.mp hk.2 e he
    rwa [Bool.and_eq_true] at this
  have hLL := jk_LL_ent (jt_maxL M) hV hw
  have hent : jv_ent M as = jv_sl as ++ List.replicate (jt_maxL M - jk_wd ats) none := by
    unfold jv_ent
    rw [hsl]
  rw [← hent] at hLL
  have hg := jk_LL_get hLL
  exact jk_an_ok hc _ f hall ((jk_mu (0, jk_en ats (jt_maxL M), c, cs) (jv_ent M as)).toNat + 1) _ List.mem_cons_self (jv_ent M as) h (jk_new hg.1 hg.2) hO (by omega)
/-- a method that is checked without calls, or with these callees -/
def jk_sgl (sg : jk_G) (cs : List Nat) : jk_G := fun y => if cs.contains y then sg y else none
theorem jk_sgl_ok {cs : List Nat} (hc : ∀ y ∈ cs, jk_Sp RT pr sg call y) : ∀ y, jk_Sp RT pr (jk_sgl sg cs) call y := by
  intro y ats rt e
  unfold jk_sgl at e
  split at e
  · rename_i hy
    exact hc y (List.contains_iff_mem.mp hy) ats rt e
  · cases e
end JK
