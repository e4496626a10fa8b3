/-! a checker of types over the abstract machine's code: where it says yes, a method returns in every heap whose cells have their types -/
/-- a type: ints between two bounds; longs (true) or null alone (false); references to cells of a role (true: never null) -/
abbrev jk_T : Type := (Int × Int) ⊕ (Bool ⊕ (Nat × Bool))
/-- a role: objects of a class with their fields' types; arrays of a kind, of at least so many elements of a type -/
abbrev jk_D : Type := (Nat × List jk_T) ⊕ (Nat × Nat × jk_T)
abbrev jk_R : Type := Nat → Option Nat
abbrev jk_AL : Type := List (Option (jk_T × Option Int))
abbrev jk_AS : Type := List (jk_T × Option Nat)
abbrev jk_A : Type := Nat × jk_AL × jk_AS
def jk_V (ρ : jk_R) (t : jk_T) (v : Value) : Prop := match t with
  | .inl b => ∃ x : Int32, v = .int x ∧ b.1 ≤ x.toInt ∧ x.toInt ≤ b.2
  | .inr (.inl true) => ∃ x : Int64, v = .long x
  | .inr (.inl false) => v = .null
  | .inr (.inr r) => (r.2 = false ∧ v = .null) ∨ ∃ a, v = .ref a ∧ ρ a = some r.1
def jk_Vs (ρ : jk_R) : List jk_T → List Value → Prop
  | [], [] => True
  | t :: ts, v :: vs => jk_V ρ t v ∧ jk_Vs ρ ts vs
  | _, _ => False
def jk_C (ρ : jk_R) (d : jk_D) (c : jv_C) : Prop := match d, c with
  | .inl (ci, ts), .inl (ci', fs) => ci' = ci ∧ jk_Vs ρ ts fs
  | .inr (kd, lo, t), .inr (kd', n, f) => kd' = kd ∧ lo ≤ n ∧ n ≤ 100000 ∧ ∀ i, jk_V ρ t (f i)
  | _, _ => False
def jk_Ok (RT : List jk_D) (ρ : jk_R) (h : jv_H) : Prop := ∀ a q, ρ a = some q → ∃ d c, RT[q]? = some d ∧ h.1 a = some c ∧ jk_C ρ d c
def jk_sm (p : Nat → Bool) (c c' : jv_C) : Prop := match c, c' with
  | .inl (ci, fs), .inl (ci', fs') => ci' = ci ∧ fs'.length = fs.length ∧ ∀ k, p k = true → fs'[k]? = fs[k]?
  | .inr (kd, n, f), .inr (kd', n', f') => kd' = kd ∧ n' = n ∧ (p 0 = true → f' = f)
  | _, _ => False
/-- nothing is made, nothing without a role is touched, nothing that is kept is changed -/
def jk_Fr (pr : Nat → Nat → Bool) (ρ : jk_R) (h h' : jv_H) : Prop := h'.2 = h.2 ∧ (∀ a, ρ a = none → h'.1 a = h.1 a) ∧ ∀ a q c, ρ a = some q → h.1 a = some c → ∃ c', h'.1 a = some c' ∧ jk_sm (pr q) c c'
theorem jk_sm_rf {p : Nat → Bool} (c : jv_C) : jk_sm p c c := by
  rcases c with ⟨ci, fs⟩ | ⟨kd, n, f⟩
  · exact ⟨rfl, rfl, fun _ _ => rfl⟩
  · exact ⟨rfl, rfl, fun _ => rfl⟩
theorem jk_sm_tr {p : Nat → Bool} {a b c : jv_C} (h1 : jk_sm p a b) (h2 : jk_sm p b c) : jk_sm p a c := by
  rcases a with ⟨ci, fs⟩ | ⟨kd, n, f⟩ <;> rcases b with ⟨ci', fs'⟩ | ⟨kd', n', f'⟩ <;> rcases c with ⟨ci2, fs2⟩ | ⟨kd2, n2, f2⟩ <;> simp only [jk_sm] at h1 h2 ⊢
  · exact ⟨h2.1.trans h1.1, h2.2.1.trans h1.2.1, fun k hk => (h2.2.2 k hk).trans (h1.2.2 k hk)⟩
  · exact ⟨h2.1.trans h1.1, h2.2.1.trans h1.2.1, fun hk => (h2.2.2 hk).trans (h1.2.2 hk)⟩
theorem jk_Fr_rf {pr : Nat → Nat → Bool} {ρ : jk_R} (h : jv_H) : jk_Fr pr ρ h h := ⟨rfl, fun _ _ => rfl, fun _ _ c _ hc => ⟨c, hc, jk_sm_rf c⟩⟩
theorem jk_Fr_tr {pr : Nat → Nat → Bool} {ρ : jk_R} {a b c : jv_H} (h1 : jk_Fr pr ρ a b) (h2 : jk_Fr pr ρ b c) : jk_Fr pr ρ a c := by
  refine ⟨h2.1.trans h1.1, fun q hq => (h2.2.1 q hq).trans (h1.2.1 q hq), fun q r x hq hx => ?_⟩
  obtain ⟨x1, e1, s1⟩ := h1.2.2 q r x hq hx
  obtain ⟨x2, e2, s2⟩ := h2.2.2 q r x1 hq e1
  exact ⟨x2, e2, jk_sm_tr s1 s2⟩
def jk_x (ls : jv_L) (i : Nat) : Int := match ls[i]? with
  | some (some (.int x)) => x.toInt
  | _ => 0
/-- locals that have their types; δ: how much more than at the start -/
def jk_L (ρ : jk_R) (l0 : jv_L) (al : jk_AL) (ls : jv_L) : Prop := ls.length = al.length ∧ ∀ i t δ, al[i]? = some (some (t, δ)) → ∃ v, ls[i]? = some (some v) ∧ jk_V ρ t v ∧ ∀ d, δ = some d → jk_x ls i = jk_x l0 i + d
def jk_S (ρ : jk_R) (ls : jv_L) : jk_AS → List Value → Prop
  | [], [] => True
  | a :: as, v :: vs => jk_V ρ a.1 v ∧ (∀ i, a.2 = some i → ls[i]? = some (some v)) ∧ jk_S ρ ls as vs
  | _, _ => False
def jk_Rt (ρ : jk_R) (rt : Option jk_T) (r : Option Value) : Prop := match rt, r with
  | none, none => True
  | some t, some v => jk_V ρ t v
  | _, _ => False
def jk_Gd (RT : List jk_D) (pr : Nat → Nat → Bool) (rt : Option jk_T) (ρ : jk_R) (h : jv_H) (o : Option jv_Z) : Prop := ∃ r h', o = some (r, h') ∧ jk_Ok RT ρ h' ∧ jk_Fr pr ρ h h' ∧ jk_Rt ρ rt r
abbrev jk_G : Type := Nat → Option (List jk_T × Option jk_T)
/-- a method keeps its types: called with arguments of its types, it returns, with an answer of its type, and the heap keeps its types -/
def jk_Sp (RT : List jk_D) (pr : Nat → Nat → Bool) (sg : jk_G) (call : jv_F) (y : Nat) : Prop := ∀ ats rt, sg y = some (ats, rt) → ∀ (ρ : jk_R) (h : jv_H) (as : List Value), jk_Ok RT ρ h → jk_Vs ρ ats as → jk_Gd RT pr rt ρ h (call y as h)
/-! the checker -/
def jk_top : jk_T := .inl (-2147483648, 2147483647)
def jk_lg : jk_T := .inr (.inl true)
def jk_nu : jk_T := .inr (.inl false)
def jk_rg (lo hi : Int) : jk_T := if decide (-2147483648 ≤ lo) && decide (hi ≤ 2147483647) then .inl (lo, hi) else jk_top
def jk_sub (s t : jk_T) : Bool := match s, t with
  | .inl a, .inl b => decide (b.1 ≤ a.1) && decide (a.2 ≤ b.2)
  | .inr (.inl a), .inr (.inl b) => a == b
  | .inr (.inl false), .inr (.inr b) => !b.2
  | .inr (.inr a), .inr (.inr b) => a.1 == b.1 && (a.2 || !b.2)
  | _, _ => false
def jk_subs : List jk_T → List jk_T → Bool
  | [], [] => true
  | s :: ss, t :: ts => jk_sub s t && jk_subs ss ts
  | _, _ => false
def jk_kd (t : jk_T) : Nat := match t with
  | .inl _ => 0
  | .inr (.inl true) => 1
  | _ => 2
def jk_w (t : jk_T) : Nat := match t with
  | .inr (.inl true) => 2
  | _ => 1
def jk_fit (f : FieldType) (t : jk_T) : Bool := match f, t with
  | .int, .inl _ => true
  | .boolean, .inl b => decide (0 ≤ b.1) && decide (b.2 ≤ 1)
  | .long, .inr (.inl true) => true
  | .object _, .inr (.inl false) => true
  | .object _, .inr (.inr _) => true
  | .array _, .inr (.inl false) => true
  | .array _, .inr (.inr _) => true
  | _, _ => false
def jk_ps (n k pc : Nat) (al : jk_AL) (as : jk_AS) (t : jk_T) (s : Option Nat) : Option (List jk_A) := if n == k then some [(pc + k, al, (t, s) :: as)] else none
def jk_ld (w n k pc : Nat) (al : jk_AL) (i : Nat) (as : jk_AS) : Option (List jk_A) := match al[i]? with
  | some (some (t, _)) => if jk_kd t == w then jk_ps n k pc al as t (some i) else none
  | _ => none
def jk_ns (as : jk_AS) : jk_AS := as.map fun a => (a.1, none)
def jk_is2 (o : Option (Option (jk_T × Option Int))) : Bool := match o with
  | some (some (.inr (.inl true), _)) => true
  | _ => false
def jk_kl (al : jk_AL) (i : Nat) : jk_AL := match i with
  | 0 => al
  | j + 1 => if jk_is2 al[j]? then al.set j none else al
def jk_so (w n k pc : Nat) (al : jk_AL) (i : Nat) (as : jk_AS) : Option (List jk_A) := match as with
  | (t, _) :: as => if jk_kd t == w && decide (i < al.length) && n == k then some [(pc + k, (jk_kl al i).set i (some (t, none)), jk_ns as)] else none
  | _ => none
def jk_so2 (n k pc : Nat) (al : jk_AL) (i : Nat) (as : jk_AS) : Option (List jk_A) := match as with
  | (t, _) :: as => if jk_kd t == 1 && decide (i + 1 < al.length) && n == k then some [(pc + k, ((jk_kl al i).set i (some (t, none))).set (i + 1) none, jk_ns as)] else none
  | _ => none
def jk_o2 (f : Int × Int → Int × Int → Option jk_T) (n pc : Nat) (al : jk_AL) (as : jk_AS) : Option (List jk_A) := match as with
  | (.inl y, _) :: (.inl x, _) :: as => match f x y with
    | some t => jk_ps n 1 pc al as t none
    | none => none
  | _ => none
def jk_l2 (n pc : Nat) (al : jk_AL) (as : jk_AS) : Option (List jk_A) := match as with
  | (.inr (.inl true), _) :: (.inr (.inl true), _) :: as => jk_ps n 1 pc al as jk_lg none
  | _ => none
def jk_fadd (x y : Int × Int) : Option jk_T := some (jk_rg (x.1 + y.1) (x.2 + y.2))
def jk_fsub (x y : Int × Int) : Option jk_T := some (jk_rg (x.1 - y.2) (x.2 - y.1))
def jk_fmul (x y : Int × Int) : Option jk_T := if decide (0 ≤ x.1) && decide (0 ≤ y.1) then some (jk_rg (x.1 * y.1) (x.2 * y.2)) else some jk_top
def jk_fand (x y : Int × Int) : Option jk_T := if decide (0 ≤ y.1) then some (.inl (0, y.2)) else if decide (0 ≤ x.1) then some (.inl (0, x.2)) else some jk_top
def jk_fany (_ _ : Int × Int) : Option jk_T := some jk_top
def jk_fdiv (x y : Int × Int) : Option jk_T := if y.1 == y.2 && decide (0 < y.1) && decide (0 ≤ x.1) then some (.inl (x.1 / y.1, x.2 / y.1)) else if decide (0 < y.1) then some jk_top else none
def jk_frem (_ y : Int × Int) : Option jk_T := if decide (0 < y.1) then some jk_top else none
def jk_cut (c : ClassFile.Cond) (x y : Int × Int) : Int × Int := match c with
  | .eq => (max x.1 y.1, min x.2 y.2)
  | .ne => if y.1 == y.2 then (if x.1 == y.1 then (x.1 + 1, x.2) else if x.2 == y.1 then (x.1, x.2 - 1) else x) else x
  | .lt => (x.1, min x.2 (y.2 - 1))
  | .ge => (max x.1 y.1, x.2)
  | .gt => (max x.1 (y.1 + 1), x.2)
  | .le => (x.1, min x.2 y.2)
def jk_flip (c : ClassFile.Cond) : ClassFile.Cond := match c with
  | .eq => .eq
  | .ne => .ne
  | .lt => .gt
  | .ge => .le
  | .gt => .lt
  | .le => .ge
def jk_neg (c : ClassFile.Cond) : ClassFile.Cond := match c with
  | .eq => .ne
  | .ne => .eq
  | .lt => .ge
  | .ge => .lt
  | .gt => .le
  | .le => .gt
def jk_nar (al : jk_AL) (s : Option Nat) (t : jk_T) : jk_AL := match s with
  | some i => match al[i]? with
    | some (some (_, δ)) => al.set i (some (t, δ))
    | _ => al
  | none => al
def jk_bs (c : ClassFile.Cond) (t : Nat) (al : jk_AL) (as : jk_AS) (x : Int × Int) (sx : Option Nat) (y : Int × Int) (sy : Option Nat) : List jk_A :=
  if decide ((jk_cut c x y).2 < (jk_cut c x y).1) || decide ((jk_cut (jk_flip c) y x).2 < (jk_cut (jk_flip c) y x).1) then [] else [(t, jk_nar (jk_nar al sx (.inl (jk_cut c x y))) sy (.inl (jk_cut (jk_flip c) y x)), as)]
def jk_cj (c : ClassFile.Cond) (n pc : Nat) (off : Int) (al : jk_AL) (as : jk_AS) (x : Int × Int) (sx : Option Nat) (y : Int × Int) (sy : Option Nat) : Option (List jk_A) := if n == 3 then match jv_to pc off with
    | some t => some (jk_bs c t al as x sx y sy ++ jk_bs (jk_neg c) (pc + 3) al as x sx y sy)
    | none => none
  else none
def jk_gt (pc : Nat) (off : Int) (al : jk_AL) (as : jk_AS) : List jk_A := match jv_to pc off with
  | some t => [(t, al, as)]
  | none => []
def jk_ob (RT : List jk_D) (t : jk_T) : Option (Nat × Nat × List jk_T) := match t with
  | .inr (.inr (q, true)) => match RT[q]? with
    | some (.inl (ci, ts)) => some (q, ci, ts)
    | _ => none
  | _ => none
def jk_ar (RT : List jk_D) (t : jk_T) : Option (Nat × Nat × Nat × jk_T) := match t with
  | .inr (.inr (q, true)) => match RT[q]? with
    | some (.inr (kd, lo, e)) => some (q, kd, lo, e)
    | _ => none
  | _ => none
def jk_isA (RT : List jk_D) (C : String) (t : jk_T) : Bool := match t with
  | .inr (.inl false) => true
  | .inr (.inr (q, _)) => match RT[q]? with
    | some (.inl (ci, _)) => match jt_cl[ci]? with
      | some r => decide (r.1 = C)
      | none => false
    | _ => false
  | _ => false
def jk_oA (RT : List jk_D) (ty : FieldType) (v : jk_T) : Bool := match ty with
  | .object C => jk_isA RT C v
  | _ => true
/-- an element is read: the row's element's type must be that of the instruction -/
def jk_al (RT : List jk_D) (p : FieldType → Bool) (w n pc : Nat) (al : jk_AL) (as : jk_AS) : Option (List jk_A) := match as with
  | (.inl j, _) :: (a, _) :: as => match jk_ar RT a with
    | some (_, kd, lo, e) => match jt_at[kd]? with
      | some ty => if p ty && jk_kd e == w && !(kd == jt_scr) && decide (0 ≤ j.1) && decide (j.2 < lo) then jk_ps n 1 pc al as e none else none
      | none => none
    | none => none
  | _ => none
def jk_as (RT : List jk_D) (pr : Nat → Nat → Bool) (p : FieldType → Bool) (n pc : Nat) (al : jk_AL) (as : jk_AS) : Option (List jk_A) := match as with
  | (v, _) :: (.inl j, _) :: (a, _) :: as => match jk_ar RT a with
    | some (q, kd, lo, e) => match jt_at[kd]? with
      | some ty => if p ty && jk_sub v e && jk_fit ty v && !(kd == jt_scr) && !(pr q 0) && decide (0 ≤ j.1) && decide (j.2 < lo) && jk_oA RT ty v && n == 1 then some [(pc + 1, al, as)] else none
      | none => none
    | none => none
  | _ => none
/-- a call: y's arguments, first on the bottom -/
def jk_cl (sg : jk_G) (n pc y : Nat) (al : jk_AL) (args rest : jk_AS) : Option (List jk_A) := match sg y with
  | some (ats, rt) => if n == 3 && jk_subs ((args.map fun a => a.1)) ats && decide (((rest.map fun a => jk_w a.1).sum) ≤ 8) then match rt with
      | some t => some [(pc + 3, al, (t, none) :: rest)]
      | none => some [(pc + 3, al, rest)]
    else none
  | none => none
def jk_isI (t : FieldType) : Bool := match t with | .int => true | _ => false
def jk_isJ (t : FieldType) : Bool := match t with | .long => true | _ => false
def jk_isZ (t : FieldType) : Bool := match t with | .boolean => true | _ => false
def jk_isO (t : FieldType) : Bool := match t with | .object _ => true | _ => false
def jk_ins (RT : List jk_D) (pr : Nat → Nat → Bool) (sg : jk_G) (rt : Option jk_T) (M : Nat) (i : Instr) (n pc : Nat) (al : jk_AL) (as : jk_AS) : Option (List jk_A) :=
  match i with
  | .aconst_null => jk_ps n 1 pc al as jk_nu none
  | .iconst v => jk_ps n 1 pc al as (.inl ((Int32.ofInt v).toInt, (Int32.ofInt v).toInt)) none
  | .bipush v => jk_ps n 2 pc al as (.inl ((Int8.ofInt v).toInt32.toInt, (Int8.ofInt v).toInt32.toInt)) none
  | .sipush v => jk_ps n 3 pc al as (.inl ((Int16.ofInt v).toInt32.toInt, (Int16.ofInt v).toInt32.toInt)) none
  | .lconst _ => jk_ps n 1 pc al as jk_lg none
  | .ldc k => match jt_f3 jt_ki (jt_own M) k with
    | some v => jk_ps n 2 pc al as (.inl (v.toInt, v.toInt)) none
    | none => none
  | .ldc2_w k => match jt_f3 jt_kj (jt_own M) k with
    | some _ => jk_ps n 3 pc al as jk_lg none
    | none => none
  | .iload k => jk_ld 0 n 2 pc al k as
  | .iload_n k => jk_ld 0 n 1 pc al k as
  | .lload k => jk_ld 1 n 2 pc al k as
  | .lload_n k => jk_ld 1 n 1 pc al k as
  | .aload k => jk_ld 2 n 2 pc al k as
  | .aload_n k => jk_ld 2 n 1 pc al k as
  | .istore k => jk_so 0 n 2 pc al k as
  | .istore_n k => jk_so 0 n 1 pc al k as
  | .lstore k => jk_so2 n 2 pc al k as
  | .lstore_n k => jk_so2 n 1 pc al k as
  | .astore k => jk_so 2 n 2 pc al k as
  | .astore_n k => jk_so 2 n 1 pc al k as
  | .iinc k c => match al[k]? with
    | some (some (.inl b, δ)) => if n == 3 && decide (-1000 ≤ c) && decide (c ≤ 1000) then (if decide (-2147483648 ≤ b.1 + c) && decide (b.2 + c ≤ 2147483647) then some [(pc + 3, (jk_kl al k).set k (some (.inl (b.1 + c, b.2 + c), δ.map fun d => d + c)), jk_ns as)] else some [(pc + 3, (jk_kl al k).set k (some (jk_top, none)), jk_ns as)]) else none
    | _ => none
  | .iadd => jk_o2 jk_fadd n pc al as
  | .isub => jk_o2 jk_fsub n pc al as
  | .imul => jk_o2 jk_fmul n pc al as
  | .iand => jk_o2 jk_fand n pc al as
  | .ixor => jk_o2 jk_fany n pc al as
  | .ishl => jk_o2 jk_fany n pc al as
  | .ishr => jk_o2 jk_fany n pc al as
  | .idiv => jk_o2 jk_fdiv n pc al as
  | .irem => jk_o2 jk_frem n pc al as
  | .ladd => jk_l2 n pc al as
  | .lsub => jk_l2 n pc al as
  | .lmul => jk_l2 n pc al as
  | .land => jk_l2 n pc al as
  | .lor => jk_l2 n pc al as
  | .lneg => match as with
    | (.inr (.inl true), _) :: as => jk_ps n 1 pc al as jk_lg none
    | _ => none
  | .lshl => match as with
    | (.inl _, _) :: (.inr (.inl true), _) :: as => jk_ps n 1 pc al as jk_lg none
    | _ => none
  | .lshr => match as with
    | (.inl _, _) :: (.inr (.inl true), _) :: as => jk_ps n 1 pc al as jk_lg none
    | _ => none
  | .lcmp => match as with
    | (.inr (.inl true), _) :: (.inr (.inl true), _) :: as => jk_ps n 1 pc al as jk_top none
    | _ => none
  | .i2l => match as with
    | (.inl _, _) :: as => jk_ps n 1 pc al as jk_lg none
    | _ => none
  | .l2i => match as with
    | (.inr (.inl true), _) :: as => jk_ps n 1 pc al as jk_top none
    | _ => none
  | .dup => match as with
    | (t, s) :: as => if jk_w t == 1 then jk_ps n 1 pc al ((t, s) :: as) t s else none
    | _ => none
  | .dup2 => match as with
    | (t, s) :: (u, r) :: as => if jk_w t == 1 && jk_w u == 1 && n == 1 then some [(pc + 1, al, (t, s) :: (u, r) :: (t, s) :: (u, r) :: as)] else none
    | _ => none
  | .pop => match as with
    | (t, _) :: as => if jk_w t == 1 && n == 1 then some [(pc + 1, al, as)] else none
    | _ => none
  | .goto off => match jv_to pc off with
    | some t => if n == 3 then some [(t, al, as)] else none
    | none => none
  | .if_icmp c off => match as with
    | (.inl y, sy) :: (.inl x, sx) :: as => jk_cj c n pc off al as x sx y sy
    | _ => none
  | .ifCond c off => match as with
    | (.inl x, sx) :: as => jk_cj c n pc off al as x sx (0, 0) none
    | _ => none
  | .if_acmp _ off => match as with
    | (y, _) :: (x, _) :: as => if jk_kd y == 2 && jk_kd x == 2 && n == 3 then match jv_to pc off with
        | some t => some [(t, al, as), (pc + 3, al, as)]
        | none => none
      else none
    | _ => none
  | .ifnull off => match as with
    | (.inr (.inl false), _) :: as => match jv_to pc off with
      | some t => if n == 3 then some [(t, al, as)] else none
      | none => none
    | (.inr (.inr (q, nn)), s) :: as => match jv_to pc off with
      | some t => if n == 3 then some ((if nn then [] else [(t, al, as)]) ++ [(pc + 3, jk_nar al s (.inr (.inr (q, true))), as)]) else none
      | none => none
    | _ => none
  | .ifnonnull off => match as with
    | (.inr (.inl false), _) :: as => if n == 3 then some [(pc + 3, al, as)] else none
    | (.inr (.inr (q, nn)), s) :: as => match jv_to pc off with
      | some t => if n == 3 then some ((if nn then [] else [(pc + 3, al, as)]) ++ [(t, jk_nar al s (.inr (.inr (q, true))), as)]) else none
      | none => none
    | _ => none
  | .tableswitch dflt lo hi offs => match as with
    | (.inl x, _) :: as => if decide ((offs.size : Int) = hi - lo + 1) && (jv_to pc dflt).isSome && offs.toList.all (fun off => (jv_to pc off).isSome) then some ((if decide (x.1 < lo) || decide (hi < x.2) then jk_gt pc dflt al as else []) ++ offs.toList.zipIdx.flatMap fun q => if decide (x.1 ≤ lo + q.2) && decide (lo + q.2 ≤ x.2) then jk_gt pc q.1 al as else []) else none
    | _ => none
  | .lookupswitch dflt ps => match as with
    | (.inl x, _) :: as => if (ps.toList.zip (ps.toList.drop 1)).all (fun (a, next) => a.1 < next.1) && (jv_to pc dflt).isSome && ps.toList.all (fun q => (jv_to pc q.2).isSome) then some (jk_gt pc dflt al as ++ ps.toList.flatMap fun q => if decide (x.1 ≤ q.1) && decide (q.1 ≤ x.2) then jk_gt pc q.2 al as else []) else none
    | _ => none
  | .getfield k => match as with
    | (a, _) :: as => match jk_ob RT a, jt_f4 jt_fl (jt_own M) k with
      | some (_, ci, ts), some (ci', f) => match ts[f]? with
        | some t => if ci == ci' then jk_ps n 3 pc al as t none else none
        | none => none
      | _, _ => none
    | _ => none
  | .putfield k => match as with
    | (v, _) :: (a, _) :: as => match jk_ob RT a, jt_f4 jt_fl (jt_own M) k with
      | some (q, ci, ts), some (ci', f) => match ts[f]? with
        | some t => if ci == ci' && jk_sub v t && jk_fit (jt_fty ci f) v && !(pr q f) && !(jt_ffin ci f) && n == 3 then some [(pc + 3, al, as)] else none
        | none => none
      | _, _ => none
    | _ => none
  | .arraylength => match as with
    | (a, _) :: as => match jk_ar RT a with
      | some (_, _, lo, _) => jk_ps n 1 pc al as (.inl ((lo : Int), 100000)) none
      | none => none
    | _ => none
  | .iaload => jk_al RT jk_isI 0 n pc al as
  | .laload => jk_al RT jk_isJ 1 n pc al as
  | .baload => jk_al RT jk_isZ 0 n pc al as
  | .aaload => jk_al RT jk_isO 2 n pc al as
  | .iastore => jk_as RT pr jk_isI n pc al as
  | .lastore => jk_as RT pr jk_isJ n pc al as
  | .bastore => jk_as RT pr jk_isZ n pc al as
  | .aastore => jk_as RT pr jk_isO n pc al as
  | .invokevirtual k => match jt_inv (jt_own M) k with
    | some y => match as.drop (jt_np y) with
      | (b, s) :: rest => match jk_ob RT b with
        | some (_, ci, _) => if jt_kd y == 0 && ci == jt_own y then jk_cl sg n pc y al ((b, s) :: (as.take (jt_np y)).reverse) rest else none
        | none => none
      | _ => none
    | none => none
  | .invokestatic k => match jt_inv (jt_own M) k with
    | some y => if jt_kd y == 1 && decide (jt_np y ≤ as.length) then jk_cl sg n pc y al (as.take (jt_np y)).reverse (as.drop (jt_np y)) else none
    | none => none
  | .ireturn => match as, jt_ret M, rt with
    | [(v, _)], some ty, some t => if n == 1 && jk_kd v == 0 && jk_sub v t && jk_fit ty v then some [] else none
    | _, _, _ => none
  | .lreturn => match as, jt_ret M, rt with
    | [(v, _)], some ty, some t => if n == 1 && jk_kd v == 1 && jk_sub v t && jk_isJ ty then some [] else none
    | _, _, _ => none
  | .areturn => match as, jt_ret M, rt with
    | [(v, _)], some ty, some t => if n == 1 && jk_kd v == 2 && jk_sub v t && jk_isO ty then some [] else none
    | _, _, _ => none
  | .return_ => match as, jt_ret M, rt with
    | [], none, none => if n == 1 then some [] else none
    | _, _, _ => none
  | _ => none
/-! where a way comes back to: a place, its locals' types, and a number that falls (c less a sum of locals) -/
abbrev jk_N : Type := Nat × List (Option jk_T) × Int × List (Nat × Int)
def jk_0 (ts : List (Option jk_T)) : jk_AL := ts.map fun o => o.map fun t => (t, some 0)
def jk_sL : jk_AL → List (Option jk_T) → Bool
  | [], [] => true
  | _ :: al, none :: ts => jk_sL al ts
  | some (s, _) :: al, some t :: ts => jk_sub s t && jk_sL al ts
  | _, _ => false
def jk_tm (ts : List (Option jk_T)) (al : jk_AL) (k : Nat) (a a' : Int) : Option Int :=
  if a == 0 && a' == 0 then some 0 else
  match al[k]? with
  | some (some (.inl b', some d)) => if a == a' then some (a * d) else match ts[k]? with
    | some (some (.inl b)) => if decide (0 ≤ a) && decide (0 ≤ a') then some (a' * b'.1 - a * b.2) else none
    | _ => if a == 0 && decide (0 ≤ a') then some (a' * b'.1) else none
  | some (some (.inl b', none)) => match ts[k]? with
    | some (some (.inl b)) => if decide (0 ≤ a) && decide (0 ≤ a') then some (a' * b'.1 - a * b.2) else none
    | _ => if a == 0 && decide (0 ≤ a') then some (a' * b'.1) else none
  | _ => match ts[k]? with
    | some (some (.inl b)) => if a' == 0 && decide (0 ≤ a) then some (- a * b.2) else none
    | _ => none
def jk_lw (ts : List (Option jk_T)) (al : jk_AL) : List (Nat × Int) → List (Nat × Int) → Option Int
  | [], [] => some 0
  | (k, a) :: s, (k', a') :: t => if k == k' then match jk_tm ts al k a a', jk_lw ts al s t with
      | some x, some y => some (x + y)
      | _, _ => none
    else none
  | _, _ => none
/-- the number falls -/
def jk_fall (e : jk_N) (al : jk_AL) (e' : jk_N) : Bool := match jk_lw e.2.1 al e.2.2.2 e'.2.2.2 with
  | some x => decide (1 ≤ e.2.2.1 - e'.2.2.1 + x)
  | none => false
/-- the number is not below 0 -/
def jk_pos (e : jk_N) : Bool := match jk_lw e.2.1 [] e.2.2.2 (e.2.2.2.map fun q => (q.1, 0)) with
  | some x => decide (0 ≤ e.2.2.1 + x)
  | none => false
def jk_go (RT : List jk_D) (pr : Nat → Nat → Bool) (sg : jk_G) (rt : Option jk_T) (M : Nat) (an : List jk_N) (e : jk_N) : Nat → jk_A → Bool
  | 0, _ => false
  | f + 1, (pc, al, as) => match decode (jt_code M) pc with
    | .ok (i, n) => match jk_ins RT pr sg rt M i n pc al as with
      | some su => su.all fun s => match an.find? (fun e' => e'.1 == s.1) with
        | some e' => s.2.2.isEmpty && jk_sL s.2.1 e'.2.1 && jk_fall e s.2.1 e'
        | none => jk_go RT pr sg rt M an e f s
      | none => false
    | .error _ => false
