/-! every instruction; every method; the law -/
section JS
variable {p : Program} {l : Launch} {e : Env} {R : Room} {s : State} {m : MethodId} {args : Array Value} {below : List Frame} {meth : Method} {c : Code} {Q : State → Prop} {D : va_G} {dA : Nat → ClassId} {A : Nat → Prop} {z0 y0 M n pc d : Nat} {ls : jv_L} {st : List Value} {h : jv_H} {call : jv_F} {o : jv_S ⊕ jv_Z}
theorem js_icmp {cd : ClassFile.Cond} {off : Int} (X : jv_X p s m args meth c D dA M) (hd : decode (jt_code M) pc = .ok (.if_icmp cd off, n)) (hs : jv_ins call M (.if_icmp cd off) n pc ls st h = some o) : jv_Ok p l e R s m args below meth c D dA A z0 y0 M Q pc ls st h o := by
  unfold jv_ins at hs
  simp only at hs
  split at hs
  · rename_i y x rest
    obtain ⟨hn, hs⟩ := jv_len_inv hs
    subst hn
    refine js_go hs (fun t ht H locs cells slots la w => ?_)
    cases cd
    · refine lv_icmp_eq X.1 X.2.1 hd ht (fun q => ?_) (fun q => ?_) <;> simpa [jv_cmp, q] using w
    · refine lv_icmp_ne X.1 X.2.1 hd ht (fun q => ?_) (fun q => ?_) <;> simpa [jv_cmp, q] using w
    · refine lv_icmp_lt X.1 X.2.1 hd ht (fun q => ?_) (fun q => ?_) <;> simpa only [jv_cmp, q, decide_true, decide_false, if_true, if_false, Bool.false_eq_true] using w
    · refine lv_icmp_ge X.1 X.2.1 hd ht (fun q => ?_) (fun q => ?_) <;> simpa only [jv_cmp, q, decide_true, decide_false, if_true, if_false, Bool.false_eq_true] using w
    · refine lv_icmp_gt X.1 X.2.1 hd ht (fun q => ?_) (fun q => ?_) <;> simpa only [jv_cmp, q, decide_true, decide_false, if_true, if_false, Bool.false_eq_true] using w
    · refine lv_icmp_le X.1 X.2.1 hd ht (fun q => ?_) (fun q => ?_) <;> simpa only [jv_cmp, q, decide_true, decide_false, if_true, if_false, Bool.false_eq_true] using w
  · cases hs
theorem js_ifc {cd : ClassFile.Cond} {off : Int} (X : jv_X p s m args meth c D dA M) (hd : decode (jt_code M) pc = .ok (.ifCond cd off, n)) (hs : jv_ins call M (.ifCond cd off) n pc ls st h = some o) : jv_Ok p l e R s m args below meth c D dA A z0 y0 M Q pc ls st h o := by
  unfold jv_ins at hs
  simp only at hs
  split at hs
  · rename_i x rest
    obtain ⟨hn, hs⟩ := jv_len_inv hs
    subst hn
    refine js_go hs (fun t ht H locs cells slots la w => ?_)
    cases cd
    · refine lv_if_eq X.1 X.2.1 hd ht (fun q => ?_) (fun q => ?_) <;> simpa [jv_cmp, q] using w
    · refine lv_if_ne X.1 X.2.1 hd ht (fun q => ?_) (fun q => ?_) <;> simpa [jv_cmp, q] using w
    · refine lv_if_lt X.1 X.2.1 hd ht (fun q => ?_) (fun q => ?_) <;> simpa only [jv_cmp, q, decide_true, decide_false, if_true, if_false, Bool.false_eq_true] using w
    · refine lv_if_ge X.1 X.2.1 hd ht (fun q => ?_) (fun q => ?_) <;> simpa only [jv_cmp, q, decide_true, decide_false, if_true, if_false, Bool.false_eq_true] using w
    · refine lv_if_gt X.1 X.2.1 hd ht (fun q => ?_) (fun q => ?_) <;> simpa only [jv_cmp, q, decide_true, decide_false, if_true, if_false, Bool.false_eq_true] using w
    · refine lv_if_le X.1 X.2.1 hd ht (fun q => ?_) (fun q => ?_) <;> simpa only [jv_cmp, q, decide_true, decide_false, if_true, if_false, Bool.false_eq_true] using w
  · cases hs
theorem js_acmp {cd : ACond} {off : Int} (X : jv_X p s m args meth c D dA M) (hd : decode (jt_code M) pc = .ok (.if_acmp cd off, n)) (hs : jv_ins call M (.if_acmp cd off) n pc ls st h = some o) : jv_Ok p l e R s m args below meth c D dA A z0 y0 M Q pc ls st h o := by
  unfold jv_ins at hs
  simp only at hs
  split at hs
  · rename_i y x rest
    obtain ⟨hn, hs⟩ := jv_len_inv hs
    subst hn
    refine js_go hs (fun t ht H locs cells slots la w => ?_)
    cases cd
    · refine lv_acmp_eq (rx := some x) (ry := some y) X.1 X.2.1 hd ht (fun q => ?_) (fun q => ?_)
      · cases q; simpa using w
      · have q2 : ¬ x = y := fun z => q (by rw [z]); simpa [q2] using w
    · refine lv_acmp_ne (rx := some x) (ry := some y) X.1 X.2.1 hd ht (fun q => ?_) (fun q => ?_)
      · have q2 : ¬ x = y := fun z => q (by rw [z]); simpa [q2] using w
      · cases q; simpa using w
  · rename_i x rest
    obtain ⟨hn, hs⟩ := jv_len_inv hs
    subst hn
    refine js_go hs (fun t ht H locs cells slots la w => ?_)
    cases cd
    · exact lv_acmp_eq (rx := some x) (ry := none) X.1 X.2.1 hd ht (fun q => by cases q) (fun q => w)
    · exact lv_acmp_ne (rx := some x) (ry := none) X.1 X.2.1 hd ht (fun q => w) (fun q => by cases q)
  · rename_i y rest
    obtain ⟨hn, hs⟩ := jv_len_inv hs
    subst hn
    refine js_go hs (fun t ht H locs cells slots la w => ?_)
    cases cd
    · exact lv_acmp_eq (rx := none) (ry := some y) X.1 X.2.1 hd ht (fun q => by cases q) (fun q => w)
    · exact lv_acmp_ne (rx := none) (ry := some y) X.1 X.2.1 hd ht (fun q => w) (fun q => by cases q)
  · obtain ⟨hn, hs⟩ := jv_len_inv hs
    subst hn
    refine js_go hs (fun t ht H locs cells slots la w => ?_)
    cases cd
    · exact lv_acmp_eq (rx := none) (ry := none) X.1 X.2.1 hd ht (fun q => w) (fun q => absurd rfl q)
    · exact lv_acmp_ne (rx := none) (ry := none) X.1 X.2.1 hd ht (fun q => absurd rfl q) (fun q => w)
  · cases hs
theorem js_null {off : Int} (X : jv_X p s m args meth c D dA M) (hd : decode (jt_code M) pc = .ok (.ifnull off, n)) (hs : jv_ins call M (.ifnull off) n pc ls st h = some o) : jv_Ok p l e R s m args below meth c D dA A z0 y0 M Q pc ls st h o := by
  unfold jv_ins at hs
  simp only at hs
  split at hs
  · obtain ⟨hn, hs⟩ := jv_len_inv hs
    subst hn
    exact jv_pure hs (fun H locs cells slots la hL w => lv_ifnull X.1 X.2.1 hd w)
  · obtain ⟨hn, hs⟩ := jv_len_inv hs
    subst hn
    exact js_go hs (fun t ht H locs cells slots la w => lv_ifnullN X.1 X.2.1 hd ht w)
  · cases hs
theorem js_nonnull {off : Int} (X : jv_X p s m args meth c D dA M) (hd : decode (jt_code M) pc = .ok (.ifnonnull off, n)) (hs : jv_ins call M (.ifnonnull off) n pc ls st h = some o) : jv_Ok p l e R s m args below meth c D dA A z0 y0 M Q pc ls st h o := by
  unfold jv_ins at hs
  simp only at hs
  split at hs
  · obtain ⟨hn, hs⟩ := jv_len_inv hs
    subst hn
    exact js_go hs (fun t ht H locs cells slots la w => lv_ifnonnull X.1 X.2.1 hd ht w)
  · obtain ⟨hn, hs⟩ := jv_len_inv hs
    subst hn
    exact jv_pure hs (fun H locs cells slots la hL w => lv_ifnonnullN X.1 X.2.1 hd w)
  · cases hs
theorem js_table {dflt lo hi : Int} {offs : Array Int} (X : jv_X p s m args meth c D dA M) (hd : decode (jt_code M) pc = .ok (.tableswitch dflt lo hi offs, n)) (hs : jv_ins call M (.tableswitch dflt lo hi offs) n pc ls st h = some o) : jv_Ok p l e R s m args below meth c D dA A z0 y0 M Q pc ls st h o := by
  unfold jv_ins at hs
  simp only at hs
  split at hs
  · rename_i x rest
    split at hs
    · rename_i hx
      exact js_go hs (fun t ht H locs cells slots la w => lv_tableOut X.1 X.2.1 hd hx ht w)
    · rename_i hx
      split at hs
      · rename_i off ho
        exact js_go hs (fun t ht H locs cells slots la w => lv_tableIn X.1 X.2.1 hd (fun q => hx (Or.inl q)) (fun q => hx (Or.inr q)) ho ht w)
      · cases hs
  · cases hs
theorem js_lookup {dflt : Int} {ps : Array (Int × Int)} (X : jv_X p s m args meth c D dA M) (hd : decode (jt_code M) pc = .ok (.lookupswitch dflt ps, n)) (hs : jv_ins call M (.lookupswitch dflt ps) n pc ls st h = some o) : jv_Ok p l e R s m args below meth c D dA A z0 y0 M Q pc ls st h o := by
  unfold jv_ins at hs
  simp only at hs
  split at hs
  · rename_i x rest
    split at hs
    · rename_i hx
      exact js_go hs (fun t ht H locs cells slots la w => lv_lookup X.1 X.2.1 hd hx rfl ht w)
    · cases hs
  · cases hs
theorem js_ret {i : Instr} (hd : decode (jt_code M) pc = .ok (i, n)) (hi : i = .ireturn ∨ i = .lreturn ∨ i = .areturn ∨ i = .return_) (hs : jv_ins call M i n pc ls st h = some o) : jv_Ok p l e R s m args below meth c D dA A z0 y0 M Q pc ls st h o := by
  rcases hi with rfl | rfl | rfl | rfl <;> unfold jv_ins at hs <;> simp only at hs
  · split at hs
    · rename_i v ty hr
      split at hs
      · rename_i hc
        obtain ⟨rfl, h2, -⟩ := hc
        cases hs
        exact ⟨rfl, Or.inl ⟨v, ty, hd, rfl, hr, h2, rfl⟩⟩
      · cases hs
    · cases hs
  · split at hs
    · rename_i v hr
      split at hs
      · rename_i hc
        subst hc
        cases hs
        exact ⟨rfl, Or.inr (Or.inl ⟨v, hd, rfl, hr, rfl⟩)⟩
      · cases hs
    · cases hs
  · split at hs
    · rename_i v C hr
      split at hs
      · rename_i hc
        subst hc
        cases hs
        exact ⟨rfl, Or.inr (Or.inr (Or.inl ⟨_, C, hd, rfl, Or.inr ⟨_, rfl⟩, hr, rfl⟩))⟩
      · cases hs
    · rename_i C hr
      split at hs
      · rename_i hc
        subst hc
        cases hs
        exact ⟨rfl, Or.inr (Or.inr (Or.inl ⟨_, C, hd, rfl, Or.inl rfl, hr, rfl⟩))⟩
      · cases hs
    · cases hs
  · split at hs
    · rename_i hr
      split at hs
      · rename_i hc
        subst hc
        cases hs
        exact ⟨rfl, Or.inr (Or.inr (Or.inr ⟨hd, rfl, hr, rfl⟩))⟩
      · cases hs
    · cases hs
theorem jv_ins_ok {i : Instr} (X : jv_X p s m args meth c D dA M) (hcall : ∀ y as h r h', y < jt_mc.length → call y as h = some (r, h') → jv_G h h' ∧ jv_Met l D dA d y as h r h') (hf : d + 1 ≤ R.frames) (hlo : 32 * (d + 1) ≤ R.locals)
    (hd : decode (jt_code M) pc = .ok (i, n)) (hs : jv_ins call M i n pc ls st h = some o) : jv_Ok p l e R s m args below meth c D dA A z0 y0 M Q pc ls st h o := by
  cases i with
  | aconst_null => exact js_const (i := .aconst_null) hs (fun hn H locs cells slots la hL w => by subst hn; exact lv_null X.1 X.2.1 hd w)
  | iconst v => exact js_const (i := .iconst v) hs (fun hn H locs cells slots la hL w => by subst hn; exact lv_iconst X.1 X.2.1 hd rfl w)
  | bipush v => exact js_const (i := .bipush v) hs (fun hn H locs cells slots la hL w => by subst hn; exact lv_bipush X.1 X.2.1 hd rfl w)
  | sipush v => exact js_const (i := .sipush v) hs (fun hn H locs cells slots la hL w => by subst hn; exact lv_sipush X.1 X.2.1 hd rfl w)
  | lconst v => exact js_const (i := .lconst v) hs (fun hn H locs cells slots la hL w => by subst hn; exact lv_lconst X.1 X.2.1 hd rfl w)
  | ldc k =>
    unfold jv_ins at hs
    simp only at hs
    split at hs
    · rename_i v hv
      exact js_const (i := .ldc k) hs (fun hn H locs cells slots la hL w => by subst hn; exact lv_ldc X.1 X.2.1 X.2.2.2.1 (X.2.2.2.2.1 _ (jt_gd_of (jt_ki_in _ (jt_f3_mem hv)) rfl)) hd w)
    · cases hs
  | ldc2_w k =>
    unfold jv_ins at hs
    simp only at hs
    split at hs
    · rename_i v hv
      exact js_const (i := .ldc2_w k) hs (fun hn H locs cells slots la hL w => by subst hn; exact lv_ldc2 X.1 X.2.1 X.2.2.2.1 (X.2.2.2.2.1 _ (jt_gd_of (jt_kj_in _ (jt_f3_mem hv)) rfl)) hd w)
    · cases hs
  | iload k => exact js_ldi hs (fun hn x H locs cells slots la hl w => by subst hn; exact lv_iload X.1 X.2.1 hd hl w)
  | iload_n k => exact js_ldi hs (fun hn x H locs cells slots la hl w => by subst hn; exact lv_iload_n X.1 X.2.1 hd rfl hl w)
  | lload k => exact js_ldl hs (fun hn x H locs cells slots la hl w => by subst hn; exact lv_lload X.1 X.2.1 hd hl w)
  | lload_n k => exact js_ldl hs (fun hn x H locs cells slots la hl w => by subst hn; exact lv_lload_n X.1 X.2.1 hd rfl hl w)
  | aload k => exact js_lda hs (fun hn x H locs cells slots la hl w => by subst hn; exact lv_aload X.1 X.2.1 hd hl w) (fun hn H locs cells slots la hl w => by subst hn; exact lv_aloadN X.1 X.2.1 hd hl w)
  | aload_n k => exact js_lda hs (fun hn x H locs cells slots la hl w => by subst hn; exact lv_aload_n X.1 X.2.1 hd rfl hl w) (fun hn H locs cells slots la hl w => by subst hn; exact lv_aload_nN X.1 X.2.1 hd rfl hl w)
  | istore k => exact js_istore X hd hs
  | istore_n k => exact js_istore_n X hd hs
  | lstore k => exact js_lstore X hd hs
  | lstore_n k => exact js_lstore_n X hd hs
  | astore k => exact js_astore X hd hs
  | astore_n k => exact js_astore_n X hd hs
  | iinc k v => exact js_iinc X hd hs
  | iadd => exact js_b2 hs (fun hn x y rest H locs cells slots la w => by subst hn; exact lv_iadd X.1 X.2.1 hd w)
  | isub => exact js_b2 hs (fun hn x y rest H locs cells slots la w => by subst hn; exact lv_isub X.1 X.2.1 hd w)
  | imul => exact js_b2 hs (fun hn x y rest H locs cells slots la w => by subst hn; exact lv_imul X.1 X.2.1 hd w)
  | iand => exact js_b2 hs (fun hn x y rest H locs cells slots la w => by subst hn; exact lv_iand X.1 X.2.1 hd w)
  | ixor => exact js_b2 hs (fun hn x y rest H locs cells slots la w => by subst hn; exact lv_ixor X.1 X.2.1 hd w)
  | ishl => exact js_b2 hs (fun hn x y rest H locs cells slots la w => by subst hn; exact lv_ishl X.1 X.2.1 hd w)
  | ishr => exact js_b2 hs (fun hn x y rest H locs cells slots la w => by subst hn; exact lv_ishr X.1 X.2.1 hd w)
  | ladd => exact js_l2 hs (fun hn x y rest H locs cells slots la w => by subst hn; exact lv_ladd X.1 X.2.1 hd w)
  | lsub => exact js_l2 hs (fun hn x y rest H locs cells slots la w => by subst hn; exact lv_lsub X.1 X.2.1 hd w)
  | lmul => exact js_l2 hs (fun hn x y rest H locs cells slots la w => by subst hn; exact lv_lmul X.1 X.2.1 hd w)
  | land => exact js_l2 hs (fun hn x y rest H locs cells slots la w => by subst hn; exact lv_land X.1 X.2.1 hd w)
  | lor => exact js_l2 hs (fun hn x y rest H locs cells slots la w => by subst hn; exact lv_lor X.1 X.2.1 hd w)
  | idiv =>
    unfold jv_ins at hs
    simp only at hs
    split at hs
    · split at hs
      · cases hs
      · rename_i hz
        obtain ⟨hn, hs⟩ := jv_len_inv hs
        subst hn
        exact jv_pure hs (fun H locs cells slots la hL w => lv_idiv X.1 X.2.1 hd hz w)
    · cases hs
  | irem =>
    unfold jv_ins at hs
    simp only at hs
    split at hs
    · split at hs
      · cases hs
      · rename_i hz
        obtain ⟨hn, hs⟩ := jv_len_inv hs
        subst hn
        exact jv_pure hs (fun H locs cells slots la hL w => lv_irem X.1 X.2.1 hd hz w)
    · cases hs
  | ldiv =>
    unfold jv_ins at hs
    simp only at hs
    split at hs
    · split at hs
      · cases hs
      · rename_i hz
        obtain ⟨hn, hs⟩ := jv_len_inv hs
        subst hn
        exact jv_pure hs (fun H locs cells slots la hL w => lv_ldiv X.1 X.2.1 hd hz w)
    · cases hs
  | lrem =>
    unfold jv_ins at hs
    simp only at hs
    split at hs
    · split at hs
      · cases hs
      · rename_i hz
        obtain ⟨hn, hs⟩ := jv_len_inv hs
        subst hn
        exact jv_pure hs (fun H locs cells slots la hL w => lv_lrem X.1 X.2.1 hd hz w)
    · cases hs
  | lneg =>
    unfold jv_ins at hs
    simp only at hs
    split at hs
    · obtain ⟨hn, hs⟩ := jv_len_inv hs
      subst hn
      exact jv_pure hs (fun H locs cells slots la hL w => lv_lneg X.1 X.2.1 hd w)
    · cases hs
  | lshl =>
    unfold jv_ins at hs
    simp only at hs
    split at hs
    · obtain ⟨hn, hs⟩ := jv_len_inv hs
      subst hn
      exact jv_pure hs (fun H locs cells slots la hL w => lv_lshl X.1 X.2.1 hd rfl w)
    · cases hs
  | lshr =>
    unfold jv_ins at hs
    simp only at hs
    split at hs
    · obtain ⟨hn, hs⟩ := jv_len_inv hs
      subst hn
      exact jv_pure hs (fun H locs cells slots la hL w => lv_lshr X.1 X.2.1 hd rfl w)
    · cases hs
  | lcmp =>
    unfold jv_ins at hs
    simp only at hs
    split at hs
    · obtain ⟨hn, hs⟩ := jv_len_inv hs
      subst hn
      exact jv_pure hs (fun H locs cells slots la hL w => W.lcmp X.1 X.2.1 hd w)
    · cases hs
  | i2l =>
    unfold jv_ins at hs
    simp only at hs
    split at hs
    · obtain ⟨hn, hs⟩ := jv_len_inv hs
      subst hn
      exact jv_pure hs (fun H locs cells slots la hL w => lv_i2l X.1 X.2.1 hd rfl w)
    · cases hs
  | l2i =>
    unfold jv_ins at hs
    simp only at hs
    split at hs
    · obtain ⟨hn, hs⟩ := jv_len_inv hs
      subst hn
      exact jv_pure hs (fun H locs cells slots la hL w => lv_l2i X.1 X.2.1 hd rfl w)
    · cases hs
  | dup =>
    unfold jv_ins at hs
    simp only at hs
    split at hs
    · split at hs
      · rename_i hv
        obtain ⟨hn, hs⟩ := jv_len_inv hs
        subst hn
        exact jv_pure hs (fun H locs cells slots la hL w => lv_dup X.1 X.2.1 hd hv w)
      · cases hs
    · cases hs
  | dup2 =>
    unfold jv_ins at hs
    simp only at hs
    split at hs
    · split at hs
      · rename_i hv
        obtain ⟨hn, hs⟩ := jv_len_inv hs
        subst hn
        exact jv_pure hs (fun H locs cells slots la hL w => lv_dup2_11 X.1 X.2.1 hd hv.1 hv.2 w)
      · cases hs
    · cases hs
  | pop =>
    unfold jv_ins at hs
    simp only at hs
    split at hs
    · split at hs
      · rename_i hv
        obtain ⟨hn, hs⟩ := jv_len_inv hs
        subst hn
        exact jv_pure hs (fun H locs cells slots la hL w => lv_pop X.1 X.2.1 hd hv w)
      · cases hs
    · cases hs
  | pop2 =>
    unfold jv_ins at hs
    simp only at hs
    split at hs
    · split at hs
      · rename_i hv
        obtain ⟨hn, hs⟩ := jv_len_inv hs
        subst hn
        exact jv_pure hs (fun H locs cells slots la hL w => lv_pop2_2 X.1 X.2.1 hd hv w)
      · cases hs
    · cases hs
  | goto off =>
    unfold jv_ins at hs
    simp only at hs
    obtain ⟨hn, hs⟩ := jv_len_inv hs
    subst hn
    exact js_go hs (fun t ht H locs cells slots la w => lv_goto X.1 X.2.1 hd ht w)
  | if_icmp cd off => exact js_icmp X hd hs
  | ifCond cd off => exact js_ifc X hd hs
  | if_acmp cd off => exact js_acmp X hd hs
  | ifnull off => exact js_null X hd hs
  | ifnonnull off => exact js_nonnull X hd hs
  | tableswitch dflt lo hi offs => exact js_table X hd hs
  | lookupswitch dflt ps => exact js_lookup X hd hs
  | getfield k => exact js_getfield X hd hs
  | putfield k => exact js_putfield X hd hs
  | new k => exact js_new X hd hs
  | newarray t => exact js_newarray X hd hs
  | anewarray k => exact js_anewarray X hd hs
  | arraylength => exact js_arraylength X hd hs
  | iaload => exact js_iaload X hd hs
  | laload => exact js_laload X hd hs
  | baload => exact js_baload X hd hs
  | aaload => exact js_aaload X hd hs
  | iastore => exact js_iastore X hd hs
  | lastore => exact js_lastore X hd hs
  | bastore => exact js_bastore X hd hs
  | aastore => exact js_aastore X hd hs
  | invokevirtual k => exact js_invokevirtual X hcall hf hlo hd hs
  | invokestatic k => exact js_invokestatic X hcall hf hlo hd hs
  | invokespecial k => exact js_invokespecial X hcall hf hlo hd hs
  | ireturn => exact js_ret hd (Or.inl rfl) hs
  | lreturn => exact js_ret hd (Or.inr (Or.inl rfl)) hs
  | areturn => exact js_ret hd (Or.inr (Or.inr (Or.inl rfl))) hs
  | return_ => exact js_ret hd (Or.inr (Or.inr (Or.inr rfl))) hs
  | _ => cases hs
/-- a run of the abstract machine is a run of the real one -/
theorem jv_body {z : jv_Z} (X : jv_X p s m args meth c D dA M) (hcall : ∀ y as h r h', y < jt_mc.length → call y as h = some (r, h') → jv_G h h' ∧ jv_Met l D dA d y as h r h') (hf : d + 1 ≤ R.frames) (hlo : 32 * (d + 1) ≤ R.locals) :
    ∀ (k pc : Nat) (ls : jv_L) (st : List Value) (h : jv_H), jv_loop call M k pc ls st h = some z → jv_G h z.2 ∧ (z.2.2.1 ≤ z0 + R.cells → z.2.2.2 ≤ y0 + R.slots → (∀ (pc : Nat) (ls : jv_L) (st : List Value), jv_Rt M pc st z.1 → jv_Wp p l e R s m args below meth c D dA A z0 y0 M Q pc ls st z.2) → jv_Wp p l e R s m args below meth c D dA A z0 y0 M Q pc ls st h) := by
  intro k
  induction k with
  | zero => intro pc ls st h hz; cases hz
  | succ k ih =>
    intro pc ls st h hz
    unfold jv_loop at hz
    cases hs : jv_step call M pc ls st h with
    | none => rw [hs] at hz; cases hz
    | some o =>
      rw [hs] at hz
      unfold jv_step at hs
      split at hs
      · rename_i i n hd
        have hok := jv_ins_ok (p := p) (l := l) (e := e) (R := R) (below := below) (Q := Q) (A := A) (z0 := z0) (y0 := y0) X hcall hf hlo hd hs
        cases o with
        | inr y =>
          cases hz
          obtain ⟨h1, h2⟩ := hok
          refine ⟨by rw [h1]; exact jv_G.rf, fun _ _ w => ?_⟩
          rw [← h1]
          exact w pc ls st h2
        | inl y =>
          obtain ⟨pc', ls', st', h'⟩ := y
          simp only at hz
          obtain ⟨hG, hlen, hw⟩ := hok
          obtain ⟨iG, iW⟩ := ih pc' ls' st' h' hz
          exact ⟨hG.tr iG, fun r1 r2 w => hw (Nat.le_trans iG.1 r1) (Nat.le_trans iG.2.1 r2) (iW r1 r2 w)⟩
      · cases hs
end JS
/-! growth -/
theorem jv_pfG {h h' : jv_H} {a ci k : Nat} {v : Value} (e : jv_pf h a ci k v = some h') : jv_G h h' := by
  obtain ⟨fs, e1, -, -, -, rfl⟩ := jv_pf_inv e
  exact jv_G.up e1 rfl
theorem jv_asG {h h' : jv_H} {a : Nat} {ty : FieldType} {i : Int32} {v : Value} (e : jv_as h a ty i v = some h') : jv_G h h' := by
  obtain ⟨k, n, f, e1, e2, -, -, rfl⟩ := jv_as_inv e
  exact jv_G.up e1 (jv_scrF e2)
set_option maxHeartbeats 4000000 in
theorem jv_insG {call : jv_F} {M n pc pc' : Nat} {i : Instr} {ls ls' : jv_L} {st st' : List Value} {h h' : jv_H} (hcall : ∀ y as h r h', y < jt_mc.length → call y as h = some (r, h') → jv_G h h') (hs : jv_ins call M i n pc ls st h = some (.inl (pc', ls', st', h'))) : jv_G h h' := by
  cases i <;> simp only [jv_ins, jv_ldi, jv_ldl, jv_lda, jv_sti, jv_stl, jv_sta, jv_b2, jv_l2, jv_go, jv_len, jv_n, jv_inv] at hs <;> (try (cases hs; done)) <;> (try (split at hs)) <;> (try (cases hs; done)) <;> (try (split at hs)) <;> (try (cases hs; done)) <;> (try (split at hs)) <;> (try (cases hs; done)) <;> (try (split at hs)) <;> (try (cases hs; done)) <;> (try (split at hs)) <;> (try (cases hs; done)) <;> (try (split at hs)) <;> (try (cases hs; done)) <;> (try (split at hs)) <;> (try (cases hs; done)) <;> cases hs <;>
    first
    | exact jv_G.rf
    | exact jv_G.push
    | exact jv_pfG (by assumption)
    | exact jv_asG (by assumption)
    | exact hcall _ _ _ _ _ (jt_inv_ok (by assumption)).1 (by assumption)
theorem jv_loopG {call : jv_F} {M : Nat} (hcall : ∀ y as h r h', y < jt_mc.length → call y as h = some (r, h') → jv_G h h') : ∀ (k pc : Nat) (ls : jv_L) (st : List Value) (h : jv_H) (z : jv_Z), jv_loop call M k pc ls st h = some z → jv_G h z.2 := by
  intro k
  induction k with
  | zero => intro pc ls st h z hz; cases hz
  | succ k ih =>
    intro pc ls st h z hz
    unfold jv_loop at hz
    cases hs : jv_step call M pc ls st h with
    | none => rw [hs] at hz; cases hz
    | some o =>
      rw [hs] at hz
      unfold jv_step at hs
      split at hs
      · rename_i i n hd
        cases o with
        | inr y =>
          cases hz
          cases i <;> simp only [jv_ins, jv_ldi, jv_ldl, jv_lda, jv_sti, jv_stl, jv_sta, jv_b2, jv_l2, jv_go, jv_len, jv_n, jv_inv] at hs <;> (try (cases hs; done)) <;> (try (split at hs)) <;> (try (cases hs; done)) <;> (try (split at hs)) <;> (try (cases hs; done)) <;> (try (split at hs)) <;> (try (cases hs; done)) <;> (try (split at hs)) <;> (try (cases hs; done)) <;> (try (split at hs)) <;> (try (cases hs; done)) <;> (try (split at hs)) <;> (try (cases hs; done)) <;> (try (split at hs)) <;> (try (cases hs; done)) <;> cases hs <;> exact jv_G.rf
        | inl y =>
          obtain ⟨pc', ls', st', h'⟩ := y
          simp only at hz
          exact (jv_insG hcall hs).tr (ih pc' ls' st' h' z hz)
      · cases hs
/-! entry -/
theorem jv_sl_len (as : List Value) : (lg_sl as).length = (jv_sl as).length := by
  induction as with
  | nil => rfl
  | cons v as ih =>
    unfold lg_sl jv_sl at ih ⊢
    simp only [List.flatMap_cons, List.length_append, ih]
    split <;> rfl
theorem jv_ent_get : ∀ (as : List Value) (n i k : Nat) (v : Value), (jv_sl as ++ List.replicate n none)[k]? = some (some v) → (k + i, v) ∈ lv_args i as
  | [], n, i, k, v, h => by
    simp only [jv_sl, List.flatMap_nil, List.nil_append] at h
    have := List.eq_of_mem_replicate (List.mem_of_getElem? h)
    cases this
  | w :: as, n, i, k, v, h => by
    unfold lv_args
    have hsl : jv_sl (w :: as) = (if w.category = 2 then [some w, none] else [some w]) ++ jv_sl as := by simp [jv_sl]
    rw [hsl] at h
    by_cases hc : w.category = 2
    · rw [if_pos hc] at h ⊢
      match k, h with
      | 0, h => cases h; rw [Nat.zero_add]; exact List.mem_cons_self
      | 1, h => cases h
      | k + 2, h =>
        have h2 : (jv_sl as ++ List.replicate n none)[k]? = some (some v) := h
        have := jv_ent_get as n (i + 2) k v h2
        rw [show k + 2 + i = k + (i + 2) by omega]
        exact List.mem_cons_of_mem _ this
    · rw [if_neg hc] at h ⊢
      match k, h with
      | 0, h => cases h; rw [Nat.zero_add]; exact List.mem_cons_self
      | k + 1, h =>
        have h2 : (jv_sl as ++ List.replicate n none)[k]? = some (some v) := h
        have := jv_ent_get as n (i + 1) k v h2
        rw [show k + 1 + i = k + (i + 1) by omega]
        exact List.mem_cons_of_mem _ this
theorem jv_ent_len {y : Nat} {as : List Value} (h : (jv_sl as).length ≤ jt_maxL y) : (jv_ent y as).length = jt_maxL y := by
  unfold jv_ent
  rw [List.length_append, List.length_replicate]
  omega
theorem jv_entry {y : Nat} {as : List Value} (h : (jv_sl as).length ≤ jt_maxL y) : jv_Lr (jv_ent y as) ((lg_sl as ++ List.replicate (jt_maxL y - (lg_sl as).length) Slot.unset).toArray) := by
  have h1 := lv_entry as (n := jt_maxL y) (by rw [jv_sl_len]; exact h)
  refine ⟨h1.1.trans (jv_ent_len h).symm, h1.2.1, ?_⟩
  rintro ⟨k, v⟩ hq
  have h2 := jv_ent_get as _ 0 k v (jv_lp_mem.mp hq)
  exact h1.2.2 (k, v) (by rw [Nat.add_zero] at h2; exact h2)
theorem jv_MetOfW {l : Launch} {y : MethodName} {ws ws' : List Cond} {rm : Room} {Pc : Array Value → State → Prop} {Qc : Array Value → State → Outcome → State → Prop} {mc ms : Nat} {free : Addr → Prop} {cc : ByteArray} {maxL : Nat} {ret : Option FieldType}
    (hy : plainFor y = true) (hw : ws = Cond.code y cc maxL ret :: ws')
    (body : ∀ p e s m args below meth c s₁, BodyLoose p l y (headSpec ws rm) cc maxL ret e s m args below meth c s₁ → c.maxLocals = maxL → Pc args s →
      W p l e (headSpec ws rm).room s m args below meth c s.heap [] 0 0 (MQ below Qc args s mc ms free) (entryFrame m args maxL)) : Met l y ws rm Pc Qc mc ms free := by
  refine MetFree.of_bodySF (code := cc) (maxLocals := maxL) (ret := ret) hy ?_ ?_
  · intro args s m h hn
    obtain ⟨meth, c, h1, h2, h3, h4, h5, h6, -, -⟩ := Cond.code_spec hn (atoms_spec (ws := ws) h _ (by rw [hw]; exact List.mem_cons_self))
    exact ⟨meth, c, h1, h2, h3, h4, h5, h6⟩
  · intro p e s m args below meth c s₁ B hml hP _
    have hh0 : s₁.heap = s.heap := by rw [B.state]; rfl
    obtain ⟨t, a1, o, b1, b2, b3⟩ := body p e s m args below meth c s₁ B hml hP s₁ hh0 (Stand.of_body B)
    exact ⟨t, o, a1, b1, b2, ⟨b3.1, b3.2⟩⟩
/-- every method of the tables, at every depth -/
theorem jv_sound (l : Launch) (D : va_G) (dA : Nat → ClassId) : ∀ (d y : Nat) (as : List Value) (h : jv_H) (r : Option Value) (h' : jv_H), y < jt_mc.length → jv_run d y as h = some (r, h') → jv_G h h' ∧ jv_Met l D dA d y as h r h' := by
  intro d
  induction d with
  | zero => intro y as h r h' hy hr; cases hr
  | succ d ih =>
    intro y as h r h' hy hr
    unfold jv_run at hr
    split at hr
    · rename_i hlen
      obtain ⟨k, hk⟩ := jv_ev_some.mp hr
      obtain ⟨f1, f2, f3, f4, f5⟩ := jt_mfacts hy
      have hG : jv_G h h' := jv_loopG (fun y as h r h' hy hr => (ih y as h r h' hy hr).1) k 0 (jv_ent y as) [] h _ hk
      refine ⟨hG, ?_⟩
      unfold jv_Met
      refine jv_MetOfW (cc := jt_code y) (maxL := jt_maxL y) (ret := jt_ret y) f2 rfl ?_
      intro p e s m args below meth c s₁ B hml hv
      obtain ⟨rfl, hR, hK⟩ := hv
      have hts := atoms_spec (ws := jt_ws y) B.pre
      have hown : s.vm.findClass (jt_cn (jt_own y)) = some m.cls := by rw [← f1]; exact findClass_of_methodNamed B.named
      have hlocks := B.notSynchronized
      have X : jv_X p s m as.toArray meth c D dA y := ⟨B.exec, B.bytes, hml, hown, fun w hw => hts w (List.mem_cons_of_mem _ hw), hK, fun hk2 => by rw [(name_of_methodNamed B.named B.method).1]; exact (f5 hk2).1⟩
      rw [lg_entry_eq]
      have hbody := (jv_body (p := p) (l := l) (e := e) (R := jv_rm (d + 1) h h') (s := s) (m := m) (args := as.toArray) (below := below) (meth := meth) (c := c) (A := jv_A h) (z0 := h.2.1) (y0 := h.2.2) (Q := MQ below (jv_Q D dA h r h') as.toArray s (h'.2.1 - h.2.1) (h'.2.2 - h.2.2) (jv_A h)) (d := d) X ih (Nat.le_refl _) (Nat.le_refl _) k 0 (jv_ent y as) [] h hk).2 (by have := hG.1; show h'.2.1 ≤ h.2.1 + (h'.2.1 - h.2.1); omega) (by have := hG.2.1; show h'.2.2 ≤ h.2.2 + (h'.2.2 - h.2.2); omega) ?_
      · exact hbody s.heap [] 0 0 _ ⟨hR, va_S.rf, fun a x e1 e2 => Or.inl ⟨x, e1, e2⟩, rfl, rfl, fun q hq => Or.inr hq⟩ (jv_entry hlen) (jv_ent_len hlen)
      · intro pc ls st hrt H locs cells slots la hW hL hn
        obtain ⟨w1, w2, w3, w4, w5, w6⟩ := hW
        have ec : cells = h'.2.1 - h.2.1 := by simp only at w4; omega
        have es : slots = h'.2.2 - h.2.2 := by simp only at w5; omega
        subst ec
        subst es
        have hq : ∀ v : Option Value, v = r → ∀ t : State, t.heap = H → s.WarmedH t.vm → jv_Q D dA h r h' as.toArray s (.returned v) t := fun v hv t ht hW2 => ⟨by rw [hv], by rw [ht]; exact w1.moved hW2.alike, w2.F ht⟩
        rcases hrt with ⟨v, ty, e1, e2, e3, e4, e5⟩ | ⟨v, e1, e2, e3, e4⟩ | ⟨v, C, e1, e2, e3, e4, e5⟩ | ⟨e1, e2, e3, e4⟩
        · subst e2
          exact W.zret X.1 X.2.1 (B.returns.trans e3) e4 (hq _ e5.symm) w2.2.2 e1
        · subst e2
          exact W.lret X.1 X.2.1 (B.returns.trans e3) (hq _ e4.symm) w2.2.2 e1
        · subst e2
          exact W.aret X.1 X.2.1 (B.returns.trans e4) (Or.inl ⟨C, rfl⟩) e3 (hq _ e5.symm) w2.2.2 e1
        · subst e2
          exact W.vret X.1 X.2.1 (B.returns.trans e3) (hq _ e4.symm) w2.2.2 e1
    · cases hr
