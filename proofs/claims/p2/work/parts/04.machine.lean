/-! A small machine over an abstract heap: what the bytecode of the claim's methods does, as a function. Part 05 proves that the real machine does the same. -/
/-- a cell: an object (its class's number, its fields) or an array (its kind's number, its length, its contents) -/
abbrev jv_C : Type := (Nat × List Value) ⊕ (Nat × Nat × (Nat → Value))
/-- a heap: what is known of its cells, how many cells there are, how many slots were made -/
abbrev jv_H : Type := (Nat → Option jv_C) × Nat × Nat
abbrev jv_L : Type := List (Option Value)
abbrev jv_Z : Type := Option Value × jv_H
abbrev jv_S : Type := Nat × jv_L × List Value × jv_H
abbrev jv_F : Type := Nat → List Value → jv_H → Option jv_Z
def jt_code (M : Nat) : ByteArray := (jt_m M).2.1
def jt_maxL (M : Nat) : Nat := (jt_m M).2.2.1
def jt_ret (M : Nat) : Option FieldType := (jt_m M).2.2.2.1
def jt_own (M : Nat) : Nat := (jt_m M).2.2.2.2.1
def jt_np (M : Nat) : Nat := (jt_m M).2.2.2.2.2.1
def jt_kd (M : Nat) : Nat := (jt_m M).2.2.2.2.2.2
def jt_f4 (l : List (Nat × Nat × Nat × Nat)) (o i : Nat) : Option (Nat × Nat) := (l.find? (fun q => q.1 == o && q.2.1 == i)).map (fun q => q.2.2)
def jt_f3 {α : Type} (l : List (Nat × Nat × α)) (o i : Nat) : Option α := (l.find? (fun q => q.1 == o && q.2.1 == i)).map (fun q => q.2.2)
def jt_fty (ci k : Nat) : FieldType := (jt_tf.getD ci (fun _ => .int)) k
def jt_ffin (ci k : Nat) : Bool := match jt_cl[ci]? with
  | some r => (r.2.1 k).2.2.2
  | none => true
def jt_dfl (ci : Nat) : List Value := match jt_cl[ci]? with
  | some r => (List.range r.2.2).map (fun k => defaultValue (jt_fty ci k))
  | none => []
def jv_up (m : Nat → Option jv_C) (a : Nat) (c : jv_C) : Nat → Option jv_C := fun q => if q = a then some c else m q
def jv_n (pc : Nat) (ls : jv_L) (st : List Value) (h : jv_H) : Option (jv_S ⊕ jv_Z) := some (.inl (pc, ls, st, h))
def jv_len {α : Type} (n k : Nat) (x : Option α) : Option α := if n = k then x else none
def jv_gf (h : jv_H) (a ci k : Nat) : Option Value := match h.1 a with
  | some (.inl (c, fs)) => if c = ci then fs[k]? else none
  | _ => none
def jv_pf (h : jv_H) (a ci k : Nat) (v : Value) : Option jv_H := match h.1 a with
  | some (.inl (c, fs)) => if c = ci ∧ k < fs.length ∧ narrow (jt_fty ci k) v = v ∧ fits (jt_fty ci k) v = true then some (jv_up h.1 a (.inl (c, fs.set k v)), h.2) else none
  | _ => none
def jv_al (h : jv_H) (a : Nat) (ty : FieldType) (i : Int32) : Option Value := match h.1 a with
  | some (.inr (k, n, f)) => if jt_at[k]? = some ty ∧ ¬ (i < 0 ∨ n ≤ i.toNatClampNeg) then some (f i.toNatClampNeg) else none
  | _ => none
def jv_as (h : jv_H) (a : Nat) (ty : FieldType) (i : Int32) (v : Value) : Option jv_H := match h.1 a with
  | some (.inr (k, n, f)) => if ¬ k = jt_scr ∧ jt_at[k]? = some ty ∧ ¬ (i < 0 ∨ n ≤ i.toNatClampNeg) then some (jv_up h.1 a (.inr (k, n, updV f i.toNatClampNeg v)), h.2) else none
  | _ => none
def jv_ln (h : jv_H) (a : Nat) : Option Nat := match h.1 a with
  | some (.inr (_, n, _)) => some n
  | _ => none
def jv_ob (ty : FieldType) : Option String := match ty with
  | .object C => some C
  | _ => none
def jv_kn (h : jv_H) (a : Nat) : Option String := match h.1 a with
  | some (.inr (k, _, _)) => if k = jt_scr then none else (jt_at[k]?).bind jv_ob
  | _ => none
def jv_cl (h : jv_H) (a : Nat) : Option Nat := match h.1 a with
  | some (.inl (c, _)) => some c
  | _ => none
def jv_isA (h : jv_H) (C : String) (v : Value) : Bool := match v with
  | .null => true
  | .ref q => match jv_cl h q with
    | some ci => match jt_cl[ci]? with
      | some r => decide (r.1 = C)
      | none => false
    | none => false
  | _ => false
def jv_new (h : jv_H) (ci : Nat) : jv_H := (jv_up h.1 h.2.1 (.inl (ci, jt_dfl ci)), h.2.1 + 1, h.2.2 + (jt_dfl ci).length)
def jv_newa (h : jv_H) (k n : Nat) (v : Value) : jv_H := (jv_up h.1 h.2.1 (.inr (k, n, fun _ => v)), h.2.1 + 1, h.2.2 + n)
def jv_cmp (c : ClassFile.Cond) (x y : Int32) : Bool := match c with
  | .eq => decide (x = y)
  | .ne => decide (¬ x = y)
  | .lt => decide (x < y)
  | .ge => decide (y ≤ x)
  | .gt => decide (y < x)
  | .le => decide (x ≤ y)
def jv_to (pc : Nat) (off : Int) : Option Nat := if 0 ≤ (pc : Int) + off then some ((pc : Int) + off).toNat else none
def jv_go (pc : Nat) (off : Int) (b : Bool) (ls : jv_L) (st : List Value) (h : jv_H) : Option (jv_S ⊕ jv_Z) := match jv_to pc off with
  | some t => jv_n (if b then t else pc + 3) ls st h
  | none => none
def jv_is2 (o : Option (Option Value)) : Bool := match o with
  | some (some v) => decide (v.category = 2)
  | _ => false
/-- the long that a store to place i spoils -/
def jv_kill (ls : jv_L) (i : Nat) : jv_L := match i with
  | 0 => ls
  | j + 1 => if jv_is2 ls[j]? then ls.set j none else ls
def jv_st1 (ls : jv_L) (i : Nat) (v : Value) : jv_L := (jv_kill ls i).set i (some v)
def jv_st2 (ls : jv_L) (i : Nat) (v : Value) : jv_L := ((jv_kill ls i).set i (some v)).set (i + 1) none
def jv_ldi (n k pc : Nat) (ls : jv_L) (i : Nat) (st : List Value) (h : jv_H) : Option (jv_S ⊕ jv_Z) := match ls[i]? with
  | some (some (.int x)) => jv_len n k (jv_n (pc + k) ls (.int x :: st) h)
  | _ => none
def jv_ldl (n k pc : Nat) (ls : jv_L) (i : Nat) (st : List Value) (h : jv_H) : Option (jv_S ⊕ jv_Z) := match ls[i]? with
  | some (some (.long x)) => jv_len n k (jv_n (pc + k) ls (.long x :: st) h)
  | _ => none
def jv_lda (n k pc : Nat) (ls : jv_L) (i : Nat) (st : List Value) (h : jv_H) : Option (jv_S ⊕ jv_Z) := match ls[i]? with
  | some (some (.ref x)) => jv_len n k (jv_n (pc + k) ls (.ref x :: st) h)
  | some (some .null) => jv_len n k (jv_n (pc + k) ls (.null :: st) h)
  | _ => none
def jv_sti (n k pc : Nat) (ls : jv_L) (i : Nat) (st : List Value) (h : jv_H) : Option (jv_S ⊕ jv_Z) := match st with
  | .int x :: st => if i < ls.length then jv_len n k (jv_n (pc + k) (jv_st1 ls i (.int x)) st h) else none
  | _ => none
def jv_stl (n k pc : Nat) (ls : jv_L) (i : Nat) (st : List Value) (h : jv_H) : Option (jv_S ⊕ jv_Z) := match st with
  | .long x :: st => if i + 1 < ls.length then jv_len n k (jv_n (pc + k) (jv_st2 ls i (.long x)) st h) else none
  | _ => none
def jv_sta (n k pc : Nat) (ls : jv_L) (i : Nat) (st : List Value) (h : jv_H) : Option (jv_S ⊕ jv_Z) := match st with
  | .ref x :: st => if i < ls.length then jv_len n k (jv_n (pc + k) (jv_st1 ls i (.ref x)) st h) else none
  | .null :: st => if i < ls.length then jv_len n k (jv_n (pc + k) (jv_st1 ls i .null) st h) else none
  | _ => none
def jv_b2 (f : Int32 → Int32 → Int32) (n pc : Nat) (ls : jv_L) (st : List Value) (h : jv_H) : Option (jv_S ⊕ jv_Z) := match st with
  | .int y :: .int x :: st => jv_len n 1 (jv_n (pc + 1) ls (.int (f x y) :: st) h)
  | _ => none
def jv_l2 (f : Int64 → Int64 → Int64) (n pc : Nat) (ls : jv_L) (st : List Value) (h : jv_H) : Option (jv_S ⊕ jv_Z) := match st with
  | .long y :: .long x :: st => jv_len n 1 (jv_n (pc + 1) ls (.long (f x y) :: st) h)
  | _ => none
def jv_wide (st : List Value) : Bool := decide ((st.map fun v => v.category).sum ≤ 8)
def jv_inv (call : jv_F) (y n pc : Nat) (ls : jv_L) (as rest : List Value) (h : jv_H) : Option (jv_S ⊕ jv_Z) :=
  if n = 3 ∧ jv_wide rest = true then match call y as h with
    | some (r, h') => jv_n (pc + 3) ls (r.toList ++ rest) h'
    | none => none
  else none
/-- the method that a pool number names, and whether it is named as a nest mate's -/
def jt_inv (o i : Nat) : Option Nat := match jt_f3 jt_ml o i with
  | some y => some y
  | none => (jt_f4 jt_mn o i).map (fun q => q.1)
def jv_ins (call : jv_F) (M : Nat) (i : Instr) (n pc : Nat) (ls : jv_L) (st : List Value) (h : jv_H) : Option (jv_S ⊕ jv_Z) :=
  match i with
  | .aconst_null => jv_len n 1 (jv_n (pc + 1) ls (.null :: st) h)
  | .iconst v => jv_len n 1 (jv_n (pc + 1) ls (.int (Int32.ofInt v) :: st) h)
  | .bipush v => jv_len n 2 (jv_n (pc + 2) ls (.int (Int8.ofInt v).toInt32 :: st) h)
  | .sipush v => jv_len n 3 (jv_n (pc + 3) ls (.int (Int16.ofInt v).toInt32 :: st) h)
  | .lconst v => jv_len n 1 (jv_n (pc + 1) ls (.long (Int64.ofNat (v : Nat)) :: st) h)
  | .ldc k => match jt_f3 jt_ki (jt_own M) k with
    | some v => jv_len n 2 (jv_n (pc + 2) ls (.int v :: st) h)
    | none => none
  | .ldc2_w k => match jt_f3 jt_kj (jt_own M) k with
    | some v => jv_len n 3 (jv_n (pc + 3) ls (.long v :: st) h)
    | none => none
  | .iload k => jv_ldi n 2 pc ls k st h
  | .iload_n k => jv_ldi n 1 pc ls k st h
  | .lload k => jv_ldl n 2 pc ls k st h
  | .lload_n k => jv_ldl n 1 pc ls k st h
  | .aload k => jv_lda n 2 pc ls k st h
  | .aload_n k => jv_lda n 1 pc ls k st h
  | .istore k => jv_sti n 2 pc ls k st h
  | .istore_n k => jv_sti n 1 pc ls k st h
  | .lstore k => jv_stl n 2 pc ls k st h
  | .lstore_n k => jv_stl n 1 pc ls k st h
  | .astore k => jv_sta n 2 pc ls k st h
  | .astore_n k => jv_sta n 1 pc ls k st h
  | .iinc k c => match ls[k]? with
    | some (some (.int x)) => if k < ls.length then jv_len n 3 (jv_n (pc + 3) (jv_st1 ls k (.int (x + Int32.ofInt c))) st h) else none
    | _ => none
  | .iadd => jv_b2 (fun x y => x + y) n pc ls st h
  | .isub => jv_b2 (fun x y => x - y) n pc ls st h
  | .imul => jv_b2 (fun x y => x * y) n pc ls st h
  | .iand => jv_b2 (fun x y => x &&& y) n pc ls st h
  | .ixor => jv_b2 (fun x y => x ^^^ y) n pc ls st h
  | .ishl => jv_b2 (fun x y => x <<< (y &&& 31)) n pc ls st h
  | .ishr => jv_b2 (fun x y => x >>> (y &&& 31)) n pc ls st h
  | .idiv => match st with
    | .int y :: .int x :: st => if y = 0 then none else jv_len n 1 (jv_n (pc + 1) ls (.int (x / y) :: st) h)
    | _ => none
  | .irem => match st with
    | .int y :: .int x :: st => if y = 0 then none else jv_len n 1 (jv_n (pc + 1) ls (.int (x - x / y * y) :: st) h)
    | _ => none
  | .ladd => jv_l2 (fun x y => x + y) n pc ls st h
  | .lsub => jv_l2 (fun x y => x - y) n pc ls st h
  | .lmul => jv_l2 (fun x y => x * y) n pc ls st h
  | .land => jv_l2 (fun x y => x &&& y) n pc ls st h
  | .lor => jv_l2 (fun x y => x ||| y) n pc ls st h
  | .ldiv => match st with
    | .long y :: .long x :: st => if y = 0 then none else jv_len n 1 (jv_n (pc + 1) ls (.long (x / y) :: st) h)
    | _ => none
  | .lrem => match st with
    | .long y :: .long x :: st => if y = 0 then none else jv_len n 1 (jv_n (pc + 1) ls (.long (x - x / y * y) :: st) h)
    | _ => none
  | .lneg => match st with
    | .long x :: st => jv_len n 1 (jv_n (pc + 1) ls (.long (-x) :: st) h)
    | _ => none
  | .lshl => match st with
    | .int y :: .long x :: st => jv_len n 1 (jv_n (pc + 1) ls (.long (x <<< (y.toInt64 &&& 63)) :: st) h)
    | _ => none
  | .lshr => match st with
    | .int y :: .long x :: st => jv_len n 1 (jv_n (pc + 1) ls (.long (x >>> (y.toInt64 &&& 63)) :: st) h)
    | _ => none
  | .lcmp => match st with
    | .long y :: .long x :: st => jv_len n 1 (jv_n (pc + 1) ls (.int (lg_cmp x y) :: st) h)
    | _ => none
  | .i2l => match st with
    | .int x :: st => jv_len n 1 (jv_n (pc + 1) ls (.long x.toInt64 :: st) h)
    | _ => none
  | .l2i => match st with
    | .long x :: st => jv_len n 1 (jv_n (pc + 1) ls (.int x.toInt32 :: st) h)
    | _ => none
  | .dup => match st with
    | v :: st => if v.category = 1 then jv_len n 1 (jv_n (pc + 1) ls (v :: v :: st) h) else none
    | _ => none
  | .dup2 => match st with
    | v :: w :: st => if v.category = 1 ∧ w.category = 1 then jv_len n 1 (jv_n (pc + 1) ls (v :: w :: v :: w :: st) h) else none
    | _ => none
  | .pop => match st with
    | v :: st => if v.category = 1 then jv_len n 1 (jv_n (pc + 1) ls st h) else none
    | _ => none
  | .pop2 => match st with
    | v :: st => if v.category = 2 then jv_len n 1 (jv_n (pc + 1) ls st h) else none
    | _ => none
  | .goto off => jv_len n 3 (jv_go pc off true ls st h)
  | .if_icmp c off => match st with
    | .int y :: .int x :: st => jv_len n 3 (jv_go pc off (jv_cmp c x y) ls st h)
    | _ => none
  | .ifCond c off => match st with
    | .int x :: st => jv_len n 3 (jv_go pc off (jv_cmp c x 0) ls st h)
    | _ => none
  | .if_acmp c off => match st with
    | .ref y :: .ref x :: st => jv_len n 3 (jv_go pc off (match c with | .eq => decide (x = y) | .ne => decide (¬ x = y)) ls st h)
    | .null :: .ref _ :: st => jv_len n 3 (jv_go pc off (match c with | .eq => false | .ne => true) ls st h)
    | .ref _ :: .null :: st => jv_len n 3 (jv_go pc off (match c with | .eq => false | .ne => true) ls st h)
    | .null :: .null :: st => jv_len n 3 (jv_go pc off (match c with | .eq => true | .ne => false) ls st h)
    | _ => none
  | .ifnull off => match st with
    | .ref _ :: st => jv_len n 3 (jv_n (pc + 3) ls st h)
    | .null :: st => jv_len n 3 (jv_go pc off true ls st h)
    | _ => none
  | .ifnonnull off => match st with
    | .ref _ :: st => jv_len n 3 (jv_go pc off true ls st h)
    | .null :: st => jv_len n 3 (jv_n (pc + 3) ls st h)
    | _ => none
  | .tableswitch dflt lo hi offs => match st with
    | .int x :: st => if x.toInt < lo ∨ hi < x.toInt then jv_go pc dflt true ls st h else match offs[(x.toInt - lo).toNat]? with
      | some off => jv_go pc off true ls st h
      | none => none
    | _ => none
  | .lookupswitch dflt ps => match st with
    | .int x :: st => if (ps.toList.zip (ps.toList.drop 1)).all (fun (a, next) => a.1 < next.1) = true then jv_go pc (Op.lookupswitch.offset ps.toList dflt x.toInt) true ls st h else none
    | _ => none
  | .getfield k => match st, jt_f4 jt_fl (jt_own M) k with
    | .ref a :: st, some (ci, f) => match jv_gf h a ci f with
      | some v => jv_len n 3 (jv_n (pc + 3) ls (v :: st) h)
      | none => none
    | _, _ => none
  | .putfield k => match st, jt_f4 jt_fl (jt_own M) k with
    | v :: .ref a :: st, some (ci, f) => if jt_ffin ci f = false ∨ (jt_kd M = 2 ∧ jt_own M = ci) then match jv_pf h a ci f v with
        | some h' => jv_len n 3 (jv_n (pc + 3) ls st h')
        | none => none
      else none
    | _, _ => none
  | .new k => match jt_f3 jt_nl (jt_own M) k with
    | some ci => if ci < jt_cl.length then jv_len n 3 (jv_n (pc + 3) ls (.ref h.2.1 :: st) (jv_new h ci)) else none
    | none => none
  | .newarray t => match st with
    | .int x :: st => match jt_at.idxOf? (newarray.typeOf t) with
      | some k => if ¬ k = jt_scr ∧ ¬ x < 0 ∧ x.toNatClampNeg ≤ 100000 then jv_len n 2 (jv_n (pc + 2) ls (.ref h.2.1 :: st) (jv_newa h k x.toNatClampNeg (defaultValue (newarray.typeOf t)))) else none
      | none => none
    | _ => none
  | .anewarray k => match st, jt_f3 jt_nl (jt_own M) k with
    | .int x :: st, some ci => match jt_at.idxOf? (.object (jt_cn ci)) with
      | some k => if ¬ k = jt_scr ∧ ¬ x < 0 ∧ x.toNatClampNeg ≤ 100000 then jv_len n 3 (jv_n (pc + 3) ls (.ref h.2.1 :: st) (jv_newa h k x.toNatClampNeg .null)) else none
      | none => none
    | _, _ => none
  | .arraylength => match st with
    | .ref a :: st => match jv_ln h a with
      | some z => jv_len n 1 (jv_n (pc + 1) ls (.int (Int32.ofNat z) :: st) h)
      | none => none
    | _ => none
  | .iaload => match st with
    | .int j :: .ref a :: st => match jv_al h a .int j with
      | some v => jv_len n 1 (jv_n (pc + 1) ls (v :: st) h)
      | none => none
    | _ => none
  | .laload => match st with
    | .int j :: .ref a :: st => match jv_al h a .long j with
      | some v => jv_len n 1 (jv_n (pc + 1) ls (v :: st) h)
      | none => none
    | _ => none
  | .baload => match st with
    | .int j :: .ref a :: st => match jv_al h a .boolean j with
      | some v => jv_len n 1 (jv_n (pc + 1) ls (v :: st) h)
      | none => none
    | _ => none
  | .aaload => match st with
    | .int j :: .ref a :: st => match jv_kn h a with
      | some C => match jv_al h a (.object C) j with
        | some v => jv_len n 1 (jv_n (pc + 1) ls (v :: st) h)
        | none => none
      | none => none
    | _ => none
  | .iastore => match st with
    | .int x :: .int j :: .ref a :: st => match jv_as h a .int j (.int x) with
      | some h' => jv_len n 1 (jv_n (pc + 1) ls st h')
      | none => none
    | _ => none
  | .lastore => match st with
    | .long x :: .int j :: .ref a :: st => match jv_as h a .long j (.long x) with
      | some h' => jv_len n 1 (jv_n (pc + 1) ls st h')
      | none => none
    | _ => none
  | .bastore => match st with
    | .int x :: .int j :: .ref a :: st => match jv_as h a .boolean j (narrow .boolean (.int x)) with
      | some h' => jv_len n 1 (jv_n (pc + 1) ls st h')
      | none => none
    | _ => none
  | .aastore => match st with
    | v :: .int j :: .ref a :: st => match jv_kn h a with
      | some C => if jv_isA h C v = true then match jv_as h a (.object C) j v with
          | some h' => jv_len n 1 (jv_n (pc + 1) ls st h')
          | none => none
        else none
      | none => none
    | _ => none
  | .invokevirtual k => match jt_inv (jt_own M) k with
    | some y => match st.drop (jt_np y) with
      | .ref b :: rest => if jt_kd y = 0 ∧ jv_cl h b = some (jt_own y) ∧ jt_np y ≤ st.length then jv_inv call y n pc ls (.ref b :: (st.take (jt_np y)).reverse) rest h else none
      | _ => none
    | none => none
  | .invokestatic k => match jt_inv (jt_own M) k with
    | some y => if jt_kd y = 1 ∧ jt_np y ≤ st.length then jv_inv call y n pc ls (st.take (jt_np y)).reverse (st.drop (jt_np y)) h else none
    | none => none
  | .invokespecial k => if jt_ob.contains (jt_own M, k) then match st with
      | .ref _ :: rest => if jv_wide rest = true then jv_len n 3 (jv_n (pc + 3) ls rest h) else none
      | _ => none
    else match jt_inv (jt_own M) k with
      | some y => match st.drop (jt_np y) with
        | .ref b :: rest => if jt_kd y = 2 ∧ jt_np y ≤ st.length then jv_inv call y n pc ls (.ref b :: (st.take (jt_np y)).reverse) rest h else none
        | _ => none
      | none => none
  | .ireturn => match st, jt_ret M with
    | [.int v], some ty => if n = 1 ∧ narrow ty (.int v) = .int v ∧ fits ty (.int v) = true then some (.inr (some (.int v), h)) else none
    | _, _ => none
  | .lreturn => match st, jt_ret M with
    | [.long v], some .long => if n = 1 then some (.inr (some (.long v), h)) else none
    | _, _ => none
  | .areturn => match st, jt_ret M with
    | [.ref v], some (.object _) => if n = 1 then some (.inr (some (.ref v), h)) else none
    | [.null], some (.object _) => if n = 1 then some (.inr (some .null, h)) else none
    | _, _ => none
  | .return_ => match st, jt_ret M with
    | [], none => if n = 1 then some (.inr (none, h)) else none
    | _, _ => none
  | _ => none
def jv_step (call : jv_F) (M : Nat) (pc : Nat) (ls : jv_L) (st : List Value) (h : jv_H) : Option (jv_S ⊕ jv_Z) := match decode (jt_code M) pc with
  | .ok (i, n) => jv_ins call M i n pc ls st h
  | .error _ => none
def jv_loop (call : jv_F) (M : Nat) : Nat → Nat → jv_L → List Value → jv_H → Option jv_Z
  | 0, _, _, _, _ => none
  | n + 1, pc, ls, st, h => match jv_step call M pc ls st h with
    | none => none
    | some (.inr z) => some z
    | some (.inl (pc', ls', st', h')) => jv_loop call M n pc' ls' st' h'
theorem jv_loop_mono (call : jv_F) (M : Nat) : ∀ (n k pc : Nat) (ls : jv_L) (st : List Value) (h : jv_H) (z : jv_Z), jv_loop call M n pc ls st h = some z → jv_loop call M (n + k) pc ls st h = some z
  | 0, _, _, _, _, _, _, hz => by simp [jv_loop] at hz
  | n + 1, k, pc, ls, st, h, z, hz => by
    rw [show n + 1 + k = (n + k) + 1 by omega]
    unfold jv_loop at hz ⊢
    cases hs : jv_step call M pc ls st h with
    | none => rw [hs] at hz; simp at hz
    | some o =>
      rw [hs] at hz
      cases o with
      | inr y => simpa using hz
      | inl y =>
        obtain ⟨pc', ls', st', h'⟩ := y
        simp only at hz ⊢
        exact jv_loop_mono call M n k pc' ls' st' h' z hz

noncomputable def jv_ev (call : jv_F) (M : Nat) (pc : Nat) (ls : jv_L) (st : List Value) (h : jv_H) : Option jv_Z :=
  @dite _ (∃ z : jv_Z, ∃ n, jv_loop call M n pc ls st h = some z) (Classical.propDecidable _) (fun hz => some (Classical.choose hz)) (fun _ => none)
