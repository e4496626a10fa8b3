/-! one equation an instruction: how the abstract machine goes on -/
section JE
variable {call : jv_F} {M pc pc' : Nat} {ls : jv_L} {st : List Value} {h : jv_H}
theorem je_of {i : Instr} {n : Nat} (hd : decode (jt_code M) pc = .ok (i, n)) : jv_ev call M pc ls st h = match jv_ins call M i n pc ls st h with
    | none => none
    | some (.inr z) => some z
    | some (.inl (pc', ls', st', h')) => jv_ev call M pc' ls' st' h' := by
  rw [jv_ev_eq]
  unfold jv_step
  rw [hd]
  rfl
theorem je_next {i : Instr} {n : Nat} {ls' : jv_L} {st' : List Value} {h' : jv_H} (hd : decode (jt_code M) pc = .ok (i, n)) (hs : jv_ins call M i n pc ls st h = some (.inl (pc', ls', st', h'))) : jv_ev call M pc ls st h = jv_ev call M pc' ls' st' h' := by
  rw [je_of hd, hs]
theorem je_end {i : Instr} {n : Nat} {z : jv_Z} (hd : decode (jt_code M) pc = .ok (i, n)) (hs : jv_ins call M i n pc ls st h = some (.inr z)) : jv_ev call M pc ls st h = some z := by
  rw [je_of hd, hs]
theorem je_null (hd : decode (jt_code M) pc = .ok (.aconst_null, 1)) (hp : pc + 1 = pc') : jv_ev call M pc ls st h = jv_ev call M pc' ls (.null :: st) h := by subst hp; exact je_next hd rfl
theorem je_iconst {n : Int} {v : Int32} (hd : decode (jt_code M) pc = .ok (.iconst n, 1)) (hp : pc + 1 = pc') (hv : Int32.ofInt n = v) : jv_ev call M pc ls st h = jv_ev call M pc' ls (.int v :: st) h := by subst hp; subst hv; exact je_next hd rfl
theorem je_bipush {n : Int} {v : Int32} (hd : decode (jt_code M) pc = .ok (.bipush n, 2)) (hp : pc + 2 = pc') (hv : (Int8.ofInt n).toInt32 = v) : jv_ev call M pc ls st h = jv_ev call M pc' ls (.int v :: st) h := by subst hp; subst hv; exact je_next hd rfl
theorem je_sipush {n : Int} {v : Int32} (hd : decode (jt_code M) pc = .ok (.sipush n, 3)) (hp : pc + 3 = pc') (hv : (Int16.ofInt n).toInt32 = v) : jv_ev call M pc ls st h = jv_ev call M pc' ls (.int v :: st) h := by subst hp; subst hv; exact je_next hd rfl
theorem je_lconst {n : Fin 2} {v : Int64} (hd : decode (jt_code M) pc = .ok (.lconst n, 1)) (hp : pc + 1 = pc') (hv : Int64.ofNat (n : Nat) = v) : jv_ev call M pc ls st h = jv_ev call M pc' ls (.long v :: st) h := by subst hp; subst hv; exact je_next hd rfl
theorem je_ldc {k : Nat} {v : Int32} (hd : decode (jt_code M) pc = .ok (.ldc k, 2)) (hp : pc + 2 = pc') (hv : jt_f3 jt_ki (jt_own M) k = some v) : jv_ev call M pc ls st h = jv_ev call M pc' ls (.int v :: st) h := by subst hp; exact je_next hd (by simp only [jv_ins, hv]; rfl)
theorem je_ldc2 {k : Nat} {v : Int64} (hd : decode (jt_code M) pc = .ok (.ldc2_w k, 3)) (hp : pc + 3 = pc') (hv : jt_f3 jt_kj (jt_own M) k = some v) : jv_ev call M pc ls st h = jv_ev call M pc' ls (.long v :: st) h := by subst hp; exact je_next hd (by simp only [jv_ins, hv]; rfl)
theorem je_iload {k : Nat} {x : Int32} (hd : decode (jt_code M) pc = .ok (.iload k, 2)) (hp : pc + 2 = pc') (hl : ls[k]? = some (some (.int x))) : jv_ev call M pc ls st h = jv_ev call M pc' ls (.int x :: st) h := by subst hp; exact je_next hd (by simp only [jv_ins, jv_ldi, hl]; rfl)
theorem je_iload_n {k : Fin 4} {x : Int32} (hd : decode (jt_code M) pc = .ok (.iload_n k, 1)) (hp : pc + 1 = pc') (hl : ls[(k : Nat)]? = some (some (.int x))) : jv_ev call M pc ls st h = jv_ev call M pc' ls (.int x :: st) h := by subst hp; exact je_next hd (by simp only [jv_ins, jv_ldi, hl]; rfl)
theorem je_lload {k : Nat} {x : Int64} (hd : decode (jt_code M) pc = .ok (.lload k, 2)) (hp : pc + 2 = pc') (hl : ls[k]? = some (some (.long x))) : jv_ev call M pc ls st h = jv_ev call M pc' ls (.long x :: st) h := by subst hp; exact je_next hd (by simp only [jv_ins, jv_ldl, hl]; rfl)
theorem je_lload_n {k : Fin 4} {x : Int64} (hd : decode (jt_code M) pc = .ok (.lload_n k, 1)) (hp : pc + 1 = pc') (hl : ls[(k : Nat)]? = some (some (.long x))) : jv_ev call M pc ls st h = jv_ev call M pc' ls (.long x :: st) h := by subst hp; exact je_next hd (by simp only [jv_ins, jv_ldl, hl]; rfl)
theorem je_aload {k : Nat} {r : Option Nat} (hd : decode (jt_code M) pc = .ok (.aload k, 2)) (hp : pc + 2 = pc') (hl : ls[k]? = some (some (va_rf r))) : jv_ev call M pc ls st h = jv_ev call M pc' ls (va_rf r :: st) h := by
  subst hp
  cases r <;> exact je_next hd (by simp only [jv_ins, jv_lda, hl, va_rf]; rfl)
theorem je_aload_n {k : Fin 4} {r : Option Nat} (hd : decode (jt_code M) pc = .ok (.aload_n k, 1)) (hp : pc + 1 = pc') (hl : ls[(k : Nat)]? = some (some (va_rf r))) : jv_ev call M pc ls st h = jv_ev call M pc' ls (va_rf r :: st) h := by
  subst hp
  cases r <;> exact je_next hd (by simp only [jv_ins, jv_lda, hl, va_rf]; rfl)
theorem je_istore {k : Nat} {x : Int32} {ls' : jv_L} (hd : decode (jt_code M) pc = .ok (.istore k, 2)) (hp : pc + 2 = pc') (hk : k < ls.length) (hl : jv_st1 ls k (.int x) = ls') : jv_ev call M pc ls (.int x :: st) h = jv_ev call M pc' ls' st h := by subst hp; subst hl; exact je_next hd (by simp only [jv_ins, jv_sti, if_pos hk]; rfl)
theorem je_istore_n {k : Fin 4} {x : Int32} {ls' : jv_L} (hd : decode (jt_code M) pc = .ok (.istore_n k, 1)) (hp : pc + 1 = pc') (hk : (k : Nat) < ls.length) (hl : jv_st1 ls k (.int x) = ls') : jv_ev call M pc ls (.int x :: st) h = jv_ev call M pc' ls' st h := by subst hp; subst hl; exact je_next hd (by simp only [jv_ins, jv_sti, if_pos hk]; rfl)
theorem je_lstore {k : Nat} {x : Int64} {ls' : jv_L} (hd : decode (jt_code M) pc = .ok (.lstore k, 2)) (hp : pc + 2 = pc') (hk : k + 1 < ls.length) (hl : jv_st2 ls k (.long x) = ls') : jv_ev call M pc ls (.long x :: st) h = jv_ev call M pc' ls' st h := by subst hp; subst hl; exact je_next hd (by simp only [jv_ins, jv_stl, if_pos hk]; rfl)
theorem je_lstore_n {k : Fin 4} {x : Int64} {ls' : jv_L} (hd : decode (jt_code M) pc = .ok (.lstore_n k, 1)) (hp : pc + 1 = pc') (hk : (k : Nat) + 1 < ls.length) (hl : jv_st2 ls k (.long x) = ls') : jv_ev call M pc ls (.long x :: st) h = jv_ev call M pc' ls' st h := by subst hp; subst hl; exact je_next hd (by simp only [jv_ins, jv_stl, if_pos hk]; rfl)
theorem je_astore {k : Nat} {r : Option Nat} {ls' : jv_L} (hd : decode (jt_code M) pc = .ok (.astore k, 2)) (hp : pc + 2 = pc') (hk : k < ls.length) (hl : jv_st1 ls k (va_rf r) = ls') : jv_ev call M pc ls (va_rf r :: st) h = jv_ev call M pc' ls' st h := by
  subst hp; subst hl
  cases r <;> exact je_next hd (by simp only [jv_ins, jv_sta, if_pos hk, va_rf]; rfl)
theorem je_astore_n {k : Fin 4} {r : Option Nat} {ls' : jv_L} (hd : decode (jt_code M) pc = .ok (.astore_n k, 1)) (hp : pc + 1 = pc') (hk : (k : Nat) < ls.length) (hl : jv_st1 ls k (va_rf r) = ls') : jv_ev call M pc ls (va_rf r :: st) h = jv_ev call M pc' ls' st h := by
  subst hp; subst hl
  cases r <;> exact je_next hd (by simp only [jv_ins, jv_sta, if_pos hk, va_rf]; rfl)
theorem je_iinc {k : Nat} {n : Int} {x v : Int32} {ls' : jv_L} (hd : decode (jt_code M) pc = .ok (.iinc k n, 3)) (hp : pc + 3 = pc') (hx : ls[k]? = some (some (.int x))) (hv : x + Int32.ofInt n = v) (hl : jv_st1 ls k (.int v) = ls') : jv_ev call M pc ls st h = jv_ev call M pc' ls' st h := by
  subst hp; subst hv; subst hl
  have hk : k < ls.length := (List.getElem?_eq_some_iff.mp hx).1
  exact je_next hd (by simp only [jv_ins, hx, if_pos hk]; rfl)
theorem je_b2 {i : Instr} {f : Int32 → Int32 → Int32} {x y : Int32} (hd : decode (jt_code M) pc = .ok (i, 1)) (hp : pc + 1 = pc') (hi : ∀ st, jv_ins call M i 1 pc ls st h = jv_b2 f 1 pc ls st h) : jv_ev call M pc ls (.int y :: .int x :: st) h = jv_ev call M pc' ls (.int (f x y) :: st) h := by subst hp; exact je_next hd (by rw [hi]; rfl)
theorem je_l2 {i : Instr} {f : Int64 → Int64 → Int64} {x y : Int64} (hd : decode (jt_code M) pc = .ok (i, 1)) (hp : pc + 1 = pc') (hi : ∀ st, jv_ins call M i 1 pc ls st h = jv_l2 f 1 pc ls st h) : jv_ev call M pc ls (.long y :: .long x :: st) h = jv_ev call M pc' ls (.long (f x y) :: st) h := by subst hp; exact je_next hd (by rw [hi]; rfl)
theorem je_idiv {x y : Int32} (hd : decode (jt_code M) pc = .ok (.idiv, 1)) (hp : pc + 1 = pc') (hy : ¬ y = 0) : jv_ev call M pc ls (.int y :: .int x :: st) h = jv_ev call M pc' ls (.int (x / y) :: st) h := by subst hp; exact je_next hd (by simp only [jv_ins, if_neg hy]; rfl)
theorem je_irem {x y : Int32} (hd : decode (jt_code M) pc = .ok (.irem, 1)) (hp : pc + 1 = pc') (hy : ¬ y = 0) : jv_ev call M pc ls (.int y :: .int x :: st) h = jv_ev call M pc' ls (.int (x - x / y * y) :: st) h := by subst hp; exact je_next hd (by simp only [jv_ins, if_neg hy]; rfl)
theorem je_ldiv {x y : Int64} (hd : decode (jt_code M) pc = .ok (.ldiv, 1)) (hp : pc + 1 = pc') (hy : ¬ y = 0) : jv_ev call M pc ls (.long y :: .long x :: st) h = jv_ev call M pc' ls (.long (x / y) :: st) h := by subst hp; exact je_next hd (by simp only [jv_ins, if_neg hy]; rfl)
theorem je_lrem {x y : Int64} (hd : decode (jt_code M) pc = .ok (.lrem, 1)) (hp : pc + 1 = pc') (hy : ¬ y = 0) : jv_ev call M pc ls (.long y :: .long x :: st) h = jv_ev call M pc' ls (.long (x - x / y * y) :: st) h := by subst hp; exact je_next hd (by simp only [jv_ins, if_neg hy]; rfl)
theorem je_lneg {x : Int64} (hd : decode (jt_code M) pc = .ok (.lneg, 1)) (hp : pc + 1 = pc') : jv_ev call M pc ls (.long x :: st) h = jv_ev call M pc' ls (.long (-x) :: st) h := by subst hp; exact je_next hd rfl
theorem je_lshl {x : Int64} {y : Int32} (hd : decode (jt_code M) pc = .ok (.lshl, 1)) (hp : pc + 1 = pc') : jv_ev call M pc ls (.int y :: .long x :: st) h = jv_ev call M pc' ls (.long (x <<< (y.toInt64 &&& 63)) :: st) h := by subst hp; exact je_next hd rfl
theorem je_lshr {x : Int64} {y : Int32} (hd : decode (jt_code M) pc = .ok (.lshr, 1)) (hp : pc + 1 = pc') : jv_ev call M pc ls (.int y :: .long x :: st) h = jv_ev call M pc' ls (.long (x >>> (y.toInt64 &&& 63)) :: st) h := by subst hp; exact je_next hd rfl
theorem je_lcmp {x y : Int64} (hd : decode (jt_code M) pc = .ok (.lcmp, 1)) (hp : pc + 1 = pc') : jv_ev call M pc ls (.long y :: .long x :: st) h = jv_ev call M pc' ls (.int (lg_cmp x y) :: st) h := by subst hp; exact je_next hd rfl
theorem je_i2l {x : Int32} (hd : decode (jt_code M) pc = .ok (.i2l, 1)) (hp : pc + 1 = pc') : jv_ev call M pc ls (.int x :: st) h = jv_ev call M pc' ls (.long x.toInt64 :: st) h := by subst hp; exact je_next hd rfl
theorem je_l2i {x : Int64} (hd : decode (jt_code M) pc = .ok (.l2i, 1)) (hp : pc + 1 = pc') : jv_ev call M pc ls (.long x :: st) h = jv_ev call M pc' ls (.int x.toInt32 :: st) h := by subst hp; exact je_next hd rfl
theorem je_dup {v : Value} (hd : decode (jt_code M) pc = .ok (.dup, 1)) (hp : pc + 1 = pc') (hv : v.category = 1) : jv_ev call M pc ls (v :: st) h = jv_ev call M pc' ls (v :: v :: st) h := by subst hp; exact je_next hd (by simp only [jv_ins, if_pos hv]; rfl)
theorem je_dup2 {v w : Value} (hd : decode (jt_code M) pc = .ok (.dup2, 1)) (hp : pc + 1 = pc') (hv : v.category = 1) (hw : w.category = 1) : jv_ev call M pc ls (v :: w :: st) h = jv_ev call M pc' ls (v :: w :: v :: w :: st) h := by subst hp; exact je_next hd (by simp only [jv_ins, if_pos (And.intro hv hw)]; rfl)
theorem je_pop {v : Value} (hd : decode (jt_code M) pc = .ok (.pop, 1)) (hp : pc + 1 = pc') (hv : v.category = 1) : jv_ev call M pc ls (v :: st) h = jv_ev call M pc' ls st h := by subst hp; exact je_next hd (by simp only [jv_ins, if_pos hv]; rfl)
theorem je_pop2 {x : Int64} (hd : decode (jt_code M) pc = .ok (.pop2, 1)) (hp : pc + 1 = pc') : jv_ev call M pc ls (.long x :: st) h = jv_ev call M pc' ls st h := by subst hp; exact je_next hd rfl
theorem jv_go_eq {off : Int} {b : Bool} {t : Nat} (ht : (pc : Int) + off = (t : Int)) : jv_go pc off b ls st h = some (.inl (if b then t else pc + 3, ls, st, h)) := by
  have h1 : jv_to pc off = some t := by
    unfold jv_to
    rw [ht, if_pos (by omega)]
    rfl
  unfold jv_go
  rw [h1]
  rfl
theorem je_goto {off : Int} (hd : decode (jt_code M) pc = .ok (.goto off, 3)) (ht : (pc : Int) + off = (pc' : Int)) : jv_ev call M pc ls st h = jv_ev call M pc' ls st h := je_next hd (by
  show jv_len 3 3 (jv_go pc off true ls st h) = _
  rw [jv_go_eq ht]
  rfl)
theorem je_if {c : Prop} [Decidable c] {b : Bool} {t : Nat} (hb : b = decide c) : jv_ev call M (if b then t else pc') ls st h = if c then jv_ev call M t ls st h else jv_ev call M pc' ls st h := by
  subst hb
  by_cases hc : c <;> simp [hc]
theorem je_icmp {cd : ClassFile.Cond} {off : Int} {t : Nat} {x y : Int32} {c : Prop} [Decidable c] (hd : decode (jt_code M) pc = .ok (.if_icmp cd off, 3)) (ht : (pc : Int) + off = (t : Int)) (hp : pc + 3 = pc') (hb : jv_cmp cd x y = decide c) : jv_ev call M pc ls (.int y :: .int x :: st) h = if c then jv_ev call M t ls st h else jv_ev call M pc' ls st h := by
  subst hp
  rw [← je_if hb]
  refine je_next hd ?_
  show jv_len 3 3 (jv_go pc off (jv_cmp cd x y) ls st h) = _
  rw [jv_go_eq ht]
  rfl
theorem je_ifc {cd : ClassFile.Cond} {off : Int} {t : Nat} {x : Int32} {c : Prop} [Decidable c] (hd : decode (jt_code M) pc = .ok (.ifCond cd off, 3)) (ht : (pc : Int) + off = (t : Int)) (hp : pc + 3 = pc') (hb : jv_cmp cd x 0 = decide c) : jv_ev call M pc ls (.int x :: st) h = if c then jv_ev call M t ls st h else jv_ev call M pc' ls st h := by
  subst hp
  rw [← je_if hb]
  refine je_next hd ?_
  show jv_len 3 3 (jv_go pc off (jv_cmp cd x 0) ls st h) = _
  rw [jv_go_eq ht]
  rfl
theorem je_acmp_eq {off : Int} {t : Nat} {x y : Option Nat} (hd : decode (jt_code M) pc = .ok (.if_acmp .eq off, 3)) (ht : (pc : Int) + off = (t : Int)) (hp : pc + 3 = pc') : jv_ev call M pc ls (va_rf y :: va_rf x :: st) h = if x = y then jv_ev call M t ls st h else jv_ev call M pc' ls st h := by
  subst hp
  cases x with
  | none =>
    cases y with
    | none => rw [if_pos rfl]; exact je_next hd (by show jv_len 3 3 (jv_go pc off true ls st h) = _; rw [jv_go_eq ht]; rfl)
    | some y => rw [if_neg (by simp)]; exact je_next hd (by show jv_len 3 3 (jv_go pc off false ls st h) = _; rw [jv_go_eq ht]; rfl)
  | some x =>
    cases y with
    | none => rw [if_neg (by simp)]; exact je_next hd (by show jv_len 3 3 (jv_go pc off false ls st h) = _; rw [jv_go_eq ht]; rfl)
    | some y =>
      have h1 : jv_ev call M (if decide (x = y) = true then t else pc + 3) ls st h = if some x = some y then jv_ev call M t ls st h else jv_ev call M (pc + 3) ls st h := by
        by_cases hc : x = y <;> simp [hc]
      rw [← h1]
      exact je_next hd (by show jv_len 3 3 (jv_go pc off (decide (x = y)) ls st h) = _; rw [jv_go_eq ht]; rfl)
theorem je_acmp_ne {off : Int} {t : Nat} {x y : Option Nat} (hd : decode (jt_code M) pc = .ok (.if_acmp .ne off, 3)) (ht : (pc : Int) + off = (t : Int)) (hp : pc + 3 = pc') : jv_ev call M pc ls (va_rf y :: va_rf x :: st) h = if x = y then jv_ev call M pc' ls st h else jv_ev call M t ls st h := by
  subst hp
  cases x with
  | none =>
    cases y with
    | none => rw [if_pos rfl]; exact je_next hd (by show jv_len 3 3 (jv_go pc off false ls st h) = _; rw [jv_go_eq ht]; rfl)
    | some y => rw [if_neg (by simp)]; exact je_next hd (by show jv_len 3 3 (jv_go pc off true ls st h) = _; rw [jv_go_eq ht]; rfl)
  | some x =>
    cases y with
    | none => rw [if_neg (by simp)]; exact je_next hd (by show jv_len 3 3 (jv_go pc off true ls st h) = _; rw [jv_go_eq ht]; rfl)
    | some y =>
      have h1 : jv_ev call M (if decide (¬ x = y) = true then t else pc + 3) ls st h = if some x = some y then jv_ev call M (pc + 3) ls st h else jv_ev call M t ls st h := by
        by_cases hc : x = y <;> simp [hc]
      rw [← h1]
      exact je_next hd (by show jv_len 3 3 (jv_go pc off (decide (¬ x = y)) ls st h) = _; rw [jv_go_eq ht]; rfl)
theorem je_ifnull {off : Int} {t : Nat} {x : Option Nat} (hd : decode (jt_code M) pc = .ok (.ifnull off, 3)) (ht : (pc : Int) + off = (t : Int)) (hp : pc + 3 = pc') : jv_ev call M pc ls (va_rf x :: st) h = if x = none then jv_ev call M t ls st h else jv_ev call M pc' ls st h := by
  subst hp
  cases x with
  | none => rw [if_pos rfl]; exact je_next hd (by show jv_len 3 3 (jv_go pc off true ls st h) = _; rw [jv_go_eq ht]; rfl)
  | some y => rw [if_neg (by simp)]; exact je_next hd rfl
theorem je_ifnonnull {off : Int} {t : Nat} {x : Option Nat} (hd : decode (jt_code M) pc = .ok (.ifnonnull off, 3)) (ht : (pc : Int) + off = (t : Int)) (hp : pc + 3 = pc') : jv_ev call M pc ls (va_rf x :: st) h = if x = none then jv_ev call M pc' ls st h else jv_ev call M t ls st h := by
  subst hp
  cases x with
  | none => rw [if_pos rfl]; exact je_next hd rfl
  | some y => rw [if_neg (by simp)]; exact je_next hd (by show jv_len 3 3 (jv_go pc off true ls st h) = _; rw [jv_go_eq ht]; rfl)
theorem je_get {k ci f a : Nat} {v : Value} (hd : decode (jt_code M) pc = .ok (.getfield k, 3)) (hp : pc + 3 = pc') (hf : jt_f4 jt_fl (jt_own M) k = some (ci, f)) (hv : jv_gf h a ci f = some v) : jv_ev call M pc ls (.ref a :: st) h = jv_ev call M pc' ls (v :: st) h := by
  subst hp
  exact je_next hd (by simp only [jv_ins, hf, hv]; rfl)
theorem je_put {k ci f a : Nat} {v : Value} {h' : jv_H} (hd : decode (jt_code M) pc = .ok (.putfield k, 3)) (hp : pc + 3 = pc') (hf : jt_f4 jt_fl (jt_own M) k = some (ci, f)) (hfin : jt_ffin ci f = false ∨ (jt_kd M = 2 ∧ jt_own M = ci)) (hv : jv_pf h a ci f v = some h') : jv_ev call M pc ls (v :: .ref a :: st) h = jv_ev call M pc' ls st h' := by
  subst hp
  exact je_next hd (by simp only [jv_ins, hf, if_pos hfin, hv]; rfl)
theorem je_new {k ci : Nat} (hd : decode (jt_code M) pc = .ok (.new k, 3)) (hp : pc + 3 = pc') (hf : jt_f3 jt_nl (jt_own M) k = some ci) (hc : ci < jt_cl.length) : jv_ev call M pc ls st h = jv_ev call M pc' ls (.ref h.2.1 :: st) (jv_new h ci) := by
  subst hp
  exact je_next hd (by simp only [jv_ins, hf, if_pos hc]; rfl)
theorem je_newarray {t : ArrayType} {k n : Nat} {x : Int32} {v : Value} (hd : decode (jt_code M) pc = .ok (.newarray t, 2)) (hp : pc + 2 = pc') (hf : jt_at.idxOf? (newarray.typeOf t) = some k) (hk : ¬ k = jt_scr) (hx : ¬ x < 0) (hn : x.toNatClampNeg = n) (hl : n ≤ 100000) (hv : defaultValue (newarray.typeOf t) = v) : jv_ev call M pc ls (.int x :: st) h = jv_ev call M pc' ls (.ref h.2.1 :: st) (jv_newa h k n v) := by
  subst hp; subst hn; subst hv
  exact je_next hd (by simp only [jv_ins, hf, if_pos (And.intro hk (And.intro hx hl))]; rfl)
theorem je_anewarray {i ci k n : Nat} {x : Int32} (hd : decode (jt_code M) pc = .ok (.anewarray i, 3)) (hp : pc + 3 = pc') (hi : jt_f3 jt_nl (jt_own M) i = some ci) (hf : jt_at.idxOf? (.object (jt_cn ci)) = some k) (hk : ¬ k = jt_scr) (hx : ¬ x < 0) (hn : x.toNatClampNeg = n) (hl : n ≤ 100000) : jv_ev call M pc ls (.int x :: st) h = jv_ev call M pc' ls (.ref h.2.1 :: st) (jv_newa h k n .null) := by
  subst hp; subst hn
  exact je_next hd (by simp only [jv_ins, hi, hf, if_pos (And.intro hk (And.intro hx hl))]; rfl)
theorem je_alen {a n : Nat} (hd : decode (jt_code M) pc = .ok (.arraylength, 1)) (hp : pc + 1 = pc') (hn : jv_ln h a = some n) : jv_ev call M pc ls (.ref a :: st) h = jv_ev call M pc' ls (.int (Int32.ofNat n) :: st) h := by
  subst hp
  exact je_next hd (by simp only [jv_ins, hn]; rfl)
theorem je_iald {a : Nat} {j : Int32} {v : Value} (hd : decode (jt_code M) pc = .ok (.iaload, 1)) (hp : pc + 1 = pc') (hv : jv_al h a .int j = some v) : jv_ev call M pc ls (.int j :: .ref a :: st) h = jv_ev call M pc' ls (v :: st) h := by
  subst hp
  exact je_next hd (by simp only [jv_ins, hv]; rfl)
theorem je_lald {a : Nat} {j : Int32} {v : Value} (hd : decode (jt_code M) pc = .ok (.laload, 1)) (hp : pc + 1 = pc') (hv : jv_al h a .long j = some v) : jv_ev call M pc ls (.int j :: .ref a :: st) h = jv_ev call M pc' ls (v :: st) h := by
  subst hp
  exact je_next hd (by simp only [jv_ins, hv]; rfl)
theorem je_bald {a : Nat} {j : Int32} {v : Value} (hd : decode (jt_code M) pc = .ok (.baload, 1)) (hp : pc + 1 = pc') (hv : jv_al h a .boolean j = some v) : jv_ev call M pc ls (.int j :: .ref a :: st) h = jv_ev call M pc' ls (v :: st) h := by
  subst hp
  exact je_next hd (by simp only [jv_ins, hv]; rfl)
theorem je_aald {a : Nat} {j : Int32} {C : String} {v : Value} (hd : decode (jt_code M) pc = .ok (.aaload, 1)) (hp : pc + 1 = pc') (hk : jv_kn h a = some C) (hv : jv_al h a (.object C) j = some v) : jv_ev call M pc ls (.int j :: .ref a :: st) h = jv_ev call M pc' ls (v :: st) h := by
  subst hp
  exact je_next hd (by simp only [jv_ins, hk, hv]; rfl)
theorem je_iast {a : Nat} {j x : Int32} {h' : jv_H} (hd : decode (jt_code M) pc = .ok (.iastore, 1)) (hp : pc + 1 = pc') (hv : jv_as h a .int j (.int x) = some h') : jv_ev call M pc ls (.int x :: .int j :: .ref a :: st) h = jv_ev call M pc' ls st h' := by
  subst hp
  exact je_next hd (by simp only [jv_ins, hv]; rfl)
theorem je_last {a : Nat} {j : Int32} {x : Int64} {h' : jv_H} (hd : decode (jt_code M) pc = .ok (.lastore, 1)) (hp : pc + 1 = pc') (hv : jv_as h a .long j (.long x) = some h') : jv_ev call M pc ls (.long x :: .int j :: .ref a :: st) h = jv_ev call M pc' ls st h' := by
  subst hp
  exact je_next hd (by simp only [jv_ins, hv]; rfl)
theorem je_bast {a : Nat} {j x : Int32} {h' : jv_H} (hd : decode (jt_code M) pc = .ok (.bastore, 1)) (hp : pc + 1 = pc') (hv : jv_as h a .boolean j (narrow .boolean (.int x)) = some h') : jv_ev call M pc ls (.int x :: .int j :: .ref a :: st) h = jv_ev call M pc' ls st h' := by
  subst hp
  exact je_next hd (by simp only [jv_ins, hv]; rfl)
theorem je_aast {a : Nat} {j : Int32} {v : Value} {C : String} {h' : jv_H} (hd : decode (jt_code M) pc = .ok (.aastore, 1)) (hp : pc + 1 = pc') (hk : jv_kn h a = some C) (hA : jv_isA h C v = true) (hv : jv_as h a (.object C) j v = some h') : jv_ev call M pc ls (v :: .int j :: .ref a :: st) h = jv_ev call M pc' ls st h' := by
  subst hp
  exact je_next hd (by simp only [jv_ins, hk, if_pos hA, hv]; rfl)
theorem je_inv {y : Nat} {as rest : List Value} {r : Option Value} {h' : jv_H} (hw : jv_wide rest = true) (hc : call y as h = some (r, h')) : jv_inv call y 3 pc ls as rest h = some (.inl (pc + 3, ls, r.toList ++ rest, h')) := by
  unfold jv_inv
  rw [if_pos ⟨rfl, hw⟩, hc]
  rfl
theorem je_virt {k y b : Nat} {as rest : List Value} {r : Option Value} {h' : jv_H} (hd : decode (jt_code M) pc = .ok (.invokevirtual k, 3)) (hp : pc + 3 = pc') (hy : jt_inv (jt_own M) k = some y) (hk : jt_kd y = 0) (hn : as.length = jt_np y) (hcl : jv_cl h b = some (jt_own y)) (hw : jv_wide rest = true) (hc : call y (.ref b :: as) h = some (r, h')) : jv_ev call M pc ls (as.reverse ++ .ref b :: rest) h = jv_ev call M pc' ls (r.toList ++ rest) h' := by
  subst hp
  refine je_next hd ?_
  have h1 : (as.reverse ++ Value.ref b :: rest).drop (jt_np y) = .ref b :: rest := by rw [← hn, ← List.length_reverse, List.drop_left]
  have h2 : (as.reverse ++ Value.ref b :: rest).take (jt_np y) = as.reverse := by rw [← hn, ← List.length_reverse, List.take_left]
  simp only [jv_ins, hy, h1, h2, List.reverse_reverse]
  rw [if_pos ⟨hk, hcl, by simp [← hn]⟩]
  exact je_inv hw hc
theorem je_stat {k y : Nat} {as rest : List Value} {r : Option Value} {h' : jv_H} (hd : decode (jt_code M) pc = .ok (.invokestatic k, 3)) (hp : pc + 3 = pc') (hy : jt_inv (jt_own M) k = some y) (hk : jt_kd y = 1) (hn : as.length = jt_np y) (hw : jv_wide rest = true) (hc : call y as h = some (r, h')) : jv_ev call M pc ls (as.reverse ++ rest) h = jv_ev call M pc' ls (r.toList ++ rest) h' := by
  subst hp
  refine je_next hd ?_
  have h1 : (as.reverse ++ rest).drop (jt_np y) = rest := by rw [← hn, ← List.length_reverse, List.drop_left]
  have h2 : (as.reverse ++ rest).take (jt_np y) = as.reverse := by rw [← hn, ← List.length_reverse, List.take_left]
  simp only [jv_ins, hy, h1, h2, List.reverse_reverse]
  rw [if_pos ⟨hk, by simp [← hn]⟩]
  exact je_inv hw hc
theorem je_spec {k y b : Nat} {as rest : List Value} {r : Option Value} {h' : jv_H} (hd : decode (jt_code M) pc = .ok (.invokespecial k, 3)) (hp : pc + 3 = pc') (ho : jt_ob.contains (jt_own M, k) = false) (hy : jt_inv (jt_own M) k = some y) (hk : jt_kd y = 2) (hn : as.length = jt_np y) (hw : jv_wide rest = true) (hc : call y (.ref b :: as) h = some (r, h')) : jv_ev call M pc ls (as.reverse ++ .ref b :: rest) h = jv_ev call M pc' ls (r.toList ++ rest) h' := by
  subst hp
  refine je_next hd ?_
  have h1 : (as.reverse ++ Value.ref b :: rest).drop (jt_np y) = .ref b :: rest := by rw [← hn, ← List.length_reverse, List.drop_left]
  have h2 : (as.reverse ++ Value.ref b :: rest).take (jt_np y) = as.reverse := by rw [← hn, ← List.length_reverse, List.take_left]
  simp only [jv_ins, ho, hy, h1, h2, List.reverse_reverse, Bool.false_eq_true, if_false]
  rw [if_pos ⟨hk, by simp [← hn]⟩]
  exact je_inv hw hc
theorem je_obj {k b : Nat} {rest : List Value} (hd : decode (jt_code M) pc = .ok (.invokespecial k, 3)) (hp : pc + 3 = pc') (ho : jt_ob.contains (jt_own M, k) = true) (hw : jv_wide rest = true) : jv_ev call M pc ls (.ref b :: rest) h = jv_ev call M pc' ls rest h := by
  subst hp
  refine je_next hd ?_
  simp only [jv_ins, ho, hw, if_true]
  rfl
theorem je_iret {v : Int32} {ty : FieldType} (hd : decode (jt_code M) pc = .ok (.ireturn, 1)) (hr : jt_ret M = some ty) (hn : narrow ty (.int v) = .int v) (hf : fits ty (.int v) = true) : jv_ev call M pc ls [.int v] h = some (some (.int v), h) := je_end hd (by simp only [jv_ins, hr]; rw [if_pos ⟨trivial, hn, hf⟩])
theorem je_lret {v : Int64} (hd : decode (jt_code M) pc = .ok (.lreturn, 1)) (hr : jt_ret M = some .long) : jv_ev call M pc ls [.long v] h = some (some (.long v), h) := je_end hd (by simp only [jv_ins, hr]; rfl)
theorem je_aret {r : Option Nat} {C : String} (hd : decode (jt_code M) pc = .ok (.areturn, 1)) (hr : jt_ret M = some (.object C)) : jv_ev call M pc ls [va_rf r] h = some (some (va_rf r), h) := by
  cases r <;> exact je_end hd (by simp only [jv_ins, hr, va_rf]; rfl)
theorem je_ret (hd : decode (jt_code M) pc = .ok (.return_, 1)) (hr : jt_ret M = none) : jv_ev call M pc ls [] h = some (none, h) := je_end hd (by simp only [jv_ins, hr]; rfl)
end JE
theorem jv_run_eq {d y : Nat} {as : List Value} {h : jv_H} {ls : jv_L} (hl : (jv_sl as).length ≤ jt_maxL y) (he : jv_ent y as = ls) : jv_run (d + 1) y as h = jv_ev (jv_run d) y 0 ls [] h := by
  subst he
  exact if_pos hl
theorem jv_is2_i {x : Int32} : jv_is2 (some (some (.int x))) = false := rfl
theorem jv_is2_r {a : Nat} : jv_is2 (some (some (.ref a))) = false := rfl
theorem jv_is2_n : jv_is2 (some none) = false := rfl
theorem jv_tab {x : Int32} {lo hi : Nat} (h : ∀ k : Nat, lo ≤ k → k ≤ hi → ¬ x = nI k) (hh : hi < 2 ^ 31) : x.toInt < (lo : Int) ∨ (hi : Int) < x.toInt := by
  rcases Int.lt_or_le x.toInt lo with q | q
  · exact Or.inl q
  · rcases Int.lt_or_le hi x.toInt with r | r
    · exact Or.inr r
    · obtain ⟨j, hj, rfl⟩ := nI_of (x := x) (fun hx => by
        have h1 : x.toInt < (0 : Int32).toInt := Int32.lt_iff_toInt_lt.mp hx
        have h2 : (0 : Int32).toInt = 0 := by decide
        omega)
      rw [nI_toInt hj] at q r
      exact absurd rfl (h j (by omega) (by omega))
theorem jd_i {x : Int32} : ¬ jv_is2 (some (some (Value.int x))) = true := Bool.false_ne_true
theorem jd_r {x : Nat} : ¬ jv_is2 (some (some (Value.ref x))) = true := Bool.false_ne_true
theorem jd_f {r : Option Nat} : ¬ jv_is2 (some (some (va_rf r))) = true := by cases r <;> exact Bool.false_ne_true
theorem jd_n : ¬ jv_is2 (some none) = true := Bool.false_ne_true
