/-! each instruction of the abstract machine is one of the real machine's -/
def jt_gd : List Cond := lw_tbl.filter goodWord
theorem jt_gd_of {w : Cond} (h : w ∈ lw_tbl) (g : goodWord w = true) : w ∈ jt_gd := List.mem_filter.mpr ⟨h, g⟩
def jv_X (p : Program) (s : State) (m : MethodId) (args : Array Value) (meth : Method) (c : Code) (D : va_G) (dA : Nat → ClassId) (M : Nat) : Prop :=
  p.tables.exec = Jvm.exec ∧ c.code = jt_code M ∧ c.maxLocals = jt_maxL M ∧ s.vm.findClass (jt_cn (jt_own M)) = some m.cls ∧ (∀ w ∈ jt_gd, w.before args s = true) ∧ jv_K D dA s ∧ (jt_kd M = 2 → meth.name = "<init>")
def jv_W (s : State) (D : va_G) (dA : Nat → ClassId) (A : Nat → Prop) (z0 y0 : Nat) (h : jv_H) (H : Heap) (locs : List Loc) (cells slots : Nat) : Prop :=
  jv_R D dA s h H ∧ va_S A s.heap H locs ∧ (∀ a x, h.1 a = some x → jv_scr x = false → A a) ∧ h.2.1 = z0 + cells ∧ h.2.2 = y0 + slots ∧ ∀ q : Nat, z0 ≤ q → A q
def jv_Wp (p : Program) (l : Launch) (e : Env) (R : Room) (s : State) (m : MethodId) (args : Array Value) (below : List Frame) (meth : Method) (c : Code) (D : va_G) (dA : Nat → ClassId) (A : Nat → Prop) (z0 y0 M : Nat) (Q : State → Prop) (pc : Nat) (ls : jv_L) (st : List Value) (h : jv_H) : Prop :=
  ∀ (H : Heap) (locs : List Loc) (cells slots : Nat) (la : Array Slot), jv_W s D dA A z0 y0 h H locs cells slots → jv_Lr ls la → ls.length = jt_maxL M → W p l e R s m args below meth c H locs cells slots Q (F0 m pc la st)
def jv_Rt (M pc : Nat) (st : List Value) (r : Option Value) : Prop :=
  (∃ (v : Int32) (ty : FieldType), decode (jt_code M) pc = .ok (.ireturn, 1) ∧ st = [.int v] ∧ jt_ret M = some ty ∧ narrow ty (.int v) = .int v ∧ r = some (.int v)) ∨
  (∃ v : Int64, decode (jt_code M) pc = .ok (.lreturn, 1) ∧ st = [.long v] ∧ jt_ret M = some .long ∧ r = some (.long v)) ∨
  (∃ (v : Value) (C : String), decode (jt_code M) pc = .ok (.areturn, 1) ∧ st = [v] ∧ (v = .null ∨ ∃ a, v = .ref a) ∧ jt_ret M = some (.object C) ∧ r = some v) ∨
  (decode (jt_code M) pc = .ok (.return_, 1) ∧ st = [] ∧ jt_ret M = none ∧ r = none)
def jv_Ok (p : Program) (l : Launch) (e : Env) (R : Room) (s : State) (m : MethodId) (args : Array Value) (below : List Frame) (meth : Method) (c : Code) (D : va_G) (dA : Nat → ClassId) (A : Nat → Prop) (z0 y0 M : Nat) (Q : State → Prop) (pc : Nat) (ls : jv_L) (st : List Value) (h : jv_H) (o : jv_S ⊕ jv_Z) : Prop := match o with
  | .inl (pc', ls', st', h') => jv_G h h' ∧ ls'.length = ls.length ∧ (h'.2.1 ≤ z0 + R.cells → h'.2.2 ≤ y0 + R.slots → jv_Wp p l e R s m args below meth c D dA A z0 y0 M Q pc' ls' st' h' → jv_Wp p l e R s m args below meth c D dA A z0 y0 M Q pc ls st h)
  | .inr z => z.2 = h ∧ jv_Rt M pc st z.1
section JX
variable {p : Program} {l : Launch} {e : Env} {R : Room} {s : State} {m : MethodId} {args : Array Value} {below : List Frame} {meth : Method} {c : Code} {Q : State → Prop} {D : va_G} {dA : Nat → ClassId} {A : Nat → Prop} {z0 y0 M n pc : Nat} {ls : jv_L} {st : List Value} {h : jv_H} {call : jv_F} {o : jv_S ⊕ jv_Z}
theorem jv_len_inv {α : Type} {n k : Nat} {x : Option α} {o : α} (hs : jv_len n k x = some o) : n = k ∧ x = some o := by
  unfold jv_len at hs
  split at hs
  · exact ⟨‹_›, hs⟩
  · cases hs
/-- a step that leaves the heap as it is -/
theorem jv_pure {pc' : Nat} {st' : List Value} (hs : jv_n pc' ls st' h = some o) (k : ∀ (H : Heap) (locs : List Loc) (cells slots : Nat) (la : Array Slot), jv_Lr ls la → W p l e R s m args below meth c H locs cells slots Q (F0 m pc' la st') → W p l e R s m args below meth c H locs cells slots Q (F0 m pc la st)) : jv_Ok p l e R s m args below meth c D dA A z0 y0 M Q pc ls st h o := by
  cases hs
  exact ⟨jv_G.rf, rfl, fun _ _ w H locs cells slots la hW hL hn => k H locs cells slots la hL (w H locs cells slots la hW hL hn)⟩
theorem js_const {i : Instr} {k : Nat} {v : Value} (hs : jv_len n k (jv_n (pc + k) ls (v :: st) h) = some o) (kk : n = k → ∀ (H : Heap) (locs : List Loc) (cells slots : Nat) (la : Array Slot), jv_Lr ls la → W p l e R s m args below meth c H locs cells slots Q (F0 m (pc + k) la (v :: st)) → W p l e R s m args below meth c H locs cells slots Q (F0 m pc la st)) : jv_Ok p l e R s m args below meth c D dA A z0 y0 M Q pc ls st h o := by
  obtain ⟨hn, hs⟩ := jv_len_inv hs
  exact jv_pure hs (kk hn)
theorem js_ldi {k i : Nat} (hs : jv_ldi n k pc ls i st h = some o) (kk : n = k → ∀ (x : Int32) (H : Heap) (locs : List Loc) (cells slots : Nat) (la : Array Slot), la[i]? = some (.val (.int x)) → W p l e R s m args below meth c H locs cells slots Q (F0 m (pc + k) la (.int x :: st)) → W p l e R s m args below meth c H locs cells slots Q (F0 m pc la st)) : jv_Ok p l e R s m args below meth c D dA A z0 y0 M Q pc ls st h o := by
  unfold jv_ldi at hs
  split at hs
  · rename_i x hx
    obtain ⟨hn, hs⟩ := jv_len_inv hs
    exact jv_pure hs (fun H locs cells slots la hL w => kk hn x H locs cells slots la (hL.at hx) w)
  · cases hs
theorem js_ldl {k i : Nat} (hs : jv_ldl n k pc ls i st h = some o) (kk : n = k → ∀ (x : Int64) (H : Heap) (locs : List Loc) (cells slots : Nat) (la : Array Slot), la[i]? = some (.val (.long x)) → W p l e R s m args below meth c H locs cells slots Q (F0 m (pc + k) la (.long x :: st)) → W p l e R s m args below meth c H locs cells slots Q (F0 m pc la st)) : jv_Ok p l e R s m args below meth c D dA A z0 y0 M Q pc ls st h o := by
  unfold jv_ldl at hs
  split at hs
  · rename_i x hx
    obtain ⟨hn, hs⟩ := jv_len_inv hs
    exact jv_pure hs (fun H locs cells slots la hL w => kk hn x H locs cells slots la (hL.at hx) w)
  · cases hs
theorem js_lda {k i : Nat} (hs : jv_lda n k pc ls i st h = some o) (kk : n = k → ∀ (x : Nat) (H : Heap) (locs : List Loc) (cells slots : Nat) (la : Array Slot), la[i]? = some (.val (.ref x)) → W p l e R s m args below meth c H locs cells slots Q (F0 m (pc + k) la (.ref x :: st)) → W p l e R s m args below meth c H locs cells slots Q (F0 m pc la st))
    (kn : n = k → ∀ (H : Heap) (locs : List Loc) (cells slots : Nat) (la : Array Slot), la[i]? = some (.val .null) → W p l e R s m args below meth c H locs cells slots Q (F0 m (pc + k) la (.null :: st)) → W p l e R s m args below meth c H locs cells slots Q (F0 m pc la st)) : jv_Ok p l e R s m args below meth c D dA A z0 y0 M Q pc ls st h o := by
  unfold jv_lda at hs
  split at hs
  · rename_i x hx
    obtain ⟨hn, hs⟩ := jv_len_inv hs
    exact jv_pure hs (fun H locs cells slots la hL w => kk hn x H locs cells slots la (hL.at hx) w)
  · rename_i hx
    obtain ⟨hn, hs⟩ := jv_len_inv hs
    exact jv_pure hs (fun H locs cells slots la hL w => kn hn H locs cells slots la (hL.at hx) w)
  · cases hs
/-- a store to a local -/
theorem jv_sto1 {pc' i : Nat} {v : Value} {rest : List Value} (hs : jv_n pc' (jv_st1 ls i v) rest h = some o) (k : ∀ (H : Heap) (locs : List Loc) (cells slots : Nat) (la : Array Slot), lv_has la ls.length (jv_lp ls) → (∀ la' : Array Slot, lv_has la' ls.length ((i, v) :: (jv_lp ls).filter (fun q => !(q.1 == i) && !(q.1 + 1 == i && q.2.category == 2))) → W p l e R s m args below meth c H locs cells slots Q (F0 m pc' la' rest)) → W p l e R s m args below meth c H locs cells slots Q (F0 m pc la st)) : jv_Ok p l e R s m args below meth c D dA A z0 y0 M Q pc ls st h o := by
  cases hs
  exact ⟨jv_G.rf, jv_st1_len ls i v, fun _ _ w H locs cells slots la hW hL hn => k H locs cells slots la hL (fun la' h' => w H locs cells slots la' hW (jv_Lr.st1 h') ((jv_st1_len ls i v).trans hn))⟩
theorem jv_sto2 {pc' i : Nat} {v : Value} {rest : List Value} (hs : jv_n pc' (jv_st2 ls i v) rest h = some o) (k : ∀ (H : Heap) (locs : List Loc) (cells slots : Nat) (la : Array Slot), lv_has la ls.length (jv_lp ls) → (∀ la' : Array Slot, lv_has la' ls.length ((i, v) :: (jv_lp ls).filter (fun q => !(q.1 == i) && (!(q.1 == i + 1) && !(q.1 + 1 == i && q.2.category == 2)))) → W p l e R s m args below meth c H locs cells slots Q (F0 m pc' la' rest)) → W p l e R s m args below meth c H locs cells slots Q (F0 m pc la st)) : jv_Ok p l e R s m args below meth c D dA A z0 y0 M Q pc ls st h o := by
  cases hs
  exact ⟨jv_G.rf, jv_st2_len ls i v, fun _ _ w H locs cells slots la hW hL hn => k H locs cells slots la hL (fun la' h' => w H locs cells slots la' hW (jv_Lr.st2 h') ((jv_st2_len ls i v).trans hn))⟩
theorem js_istore {i : Nat} (X : jv_X p s m args meth c D dA M) (hd : decode (jt_code M) pc = .ok (.istore i, n)) (hs : jv_sti n 2 pc ls i st h = some o) : jv_Ok p l e R s m args below meth c D dA A z0 y0 M Q pc ls st h o := by
  unfold jv_sti at hs
  split at hs
  · split at hs
    · rename_i x st' hi
      obtain ⟨hn, hs⟩ := jv_len_inv hs
      subst hn
      exact jv_sto1 hs (fun H locs cells slots la hL w => lv_istore X.1 X.2.1 hd hL hi rfl w)
    · cases hs
  · cases hs
theorem js_istore_n {i : Fin 4} (X : jv_X p s m args meth c D dA M) (hd : decode (jt_code M) pc = .ok (.istore_n i, n)) (hs : jv_sti n 1 pc ls i st h = some o) : jv_Ok p l e R s m args below meth c D dA A z0 y0 M Q pc ls st h o := by
  unfold jv_sti at hs
  split at hs
  · split at hs
    · rename_i x st' hi
      obtain ⟨hn, hs⟩ := jv_len_inv hs
      subst hn
      exact jv_sto1 hs (fun H locs cells slots la hL w => lv_istore_n X.1 X.2.1 hd rfl hL hi rfl w)
    · cases hs
  · cases hs
theorem js_lstore {i : Nat} (X : jv_X p s m args meth c D dA M) (hd : decode (jt_code M) pc = .ok (.lstore i, n)) (hs : jv_stl n 2 pc ls i st h = some o) : jv_Ok p l e R s m args below meth c D dA A z0 y0 M Q pc ls st h o := by
  unfold jv_stl at hs
  split at hs
  · split at hs
    · rename_i x st' hi
      obtain ⟨hn, hs⟩ := jv_len_inv hs
      subst hn
      exact jv_sto2 hs (fun H locs cells slots la hL w => lv_lstore X.1 X.2.1 hd hL hi rfl w)
    · cases hs
  · cases hs
theorem js_lstore_n {i : Fin 4} (X : jv_X p s m args meth c D dA M) (hd : decode (jt_code M) pc = .ok (.lstore_n i, n)) (hs : jv_stl n 1 pc ls i st h = some o) : jv_Ok p l e R s m args below meth c D dA A z0 y0 M Q pc ls st h o := by
  unfold jv_stl at hs
  split at hs
  · split at hs
    · rename_i x st' hi
      obtain ⟨hn, hs⟩ := jv_len_inv hs
      subst hn
      exact jv_sto2 hs (fun H locs cells slots la hL w => lv_lstore_n X.1 X.2.1 hd rfl hL hi rfl w)
    · cases hs
  · cases hs
theorem js_astore {i : Nat} (X : jv_X p s m args meth c D dA M) (hd : decode (jt_code M) pc = .ok (.astore i, n)) (hs : jv_sta n 2 pc ls i st h = some o) : jv_Ok p l e R s m args below meth c D dA A z0 y0 M Q pc ls st h o := by
  unfold jv_sta at hs
  split at hs
  · split at hs
    · rename_i x st' hi
      obtain ⟨hn, hs⟩ := jv_len_inv hs
      subst hn
      exact jv_sto1 hs (fun H locs cells slots la hL w => lv_astore X.1 X.2.1 hd hL hi rfl w)
    · cases hs
  · split at hs
    · rename_i st' hi
      obtain ⟨hn, hs⟩ := jv_len_inv hs
      subst hn
      exact jv_sto1 hs (fun H locs cells slots la hL w => lv_astoreN X.1 X.2.1 hd hL hi rfl w)
    · cases hs
  · cases hs
theorem js_astore_n {i : Fin 4} (X : jv_X p s m args meth c D dA M) (hd : decode (jt_code M) pc = .ok (.astore_n i, n)) (hs : jv_sta n 1 pc ls i st h = some o) : jv_Ok p l e R s m args below meth c D dA A z0 y0 M Q pc ls st h o := by
  unfold jv_sta at hs
  split at hs
  · split at hs
    · rename_i x st' hi
      obtain ⟨hn, hs⟩ := jv_len_inv hs
      subst hn
      exact jv_sto1 hs (fun H locs cells slots la hL w => lv_astore_n X.1 X.2.1 hd rfl hL hi rfl w)
    · cases hs
  · split at hs
    · rename_i st' hi
      obtain ⟨hn, hs⟩ := jv_len_inv hs
      subst hn
      exact jv_sto1 hs (fun H locs cells slots la hL w => lv_astore_nN X.1 X.2.1 hd rfl hL hi rfl w)
    · cases hs
  · cases hs
theorem js_iinc {i : Nat} {k : Int} (X : jv_X p s m args meth c D dA M) (hd : decode (jt_code M) pc = .ok (.iinc i k, n)) (hs : jv_ins call M (.iinc i k) n pc ls st h = some o) : jv_Ok p l e R s m args below meth c D dA A z0 y0 M Q pc ls st h o := by
  unfold jv_ins at hs
  simp only at hs
  split at hs
  · rename_i x hx
    split at hs
    · rename_i hi
      obtain ⟨hn, hs⟩ := jv_len_inv hs
      subst hn
      refine jv_sto1 hs (fun H locs cells slots la hL w => ?_)
      obtain ⟨j, hj⟩ := List.getElem?_of_mem (jv_lp_mem.mpr hx)
      exact lv_iinc X.1 X.2.1 hd hL (k := j) hj rfl hi rfl w
    · cases hs
  · cases hs
theorem js_b2 {f : Int32 → Int32 → Int32} (hs : jv_b2 f n pc ls st h = some o) (k : n = 1 → ∀ (x y : Int32) (rest : List Value) (H : Heap) (locs : List Loc) (cells slots : Nat) (la : Array Slot), W p l e R s m args below meth c H locs cells slots Q (F0 m (pc + 1) la (.int (f x y) :: rest)) → W p l e R s m args below meth c H locs cells slots Q (F0 m pc la (.int y :: .int x :: rest))) : jv_Ok p l e R s m args below meth c D dA A z0 y0 M Q pc ls st h o := by
  unfold jv_b2 at hs
  split at hs
  · obtain ⟨hn, hs⟩ := jv_len_inv hs
    exact jv_pure hs (fun H locs cells slots la hL w => k hn _ _ _ H locs cells slots la w)
  · cases hs
theorem js_l2 {f : Int64 → Int64 → Int64} (hs : jv_l2 f n pc ls st h = some o) (k : n = 1 → ∀ (x y : Int64) (rest : List Value) (H : Heap) (locs : List Loc) (cells slots : Nat) (la : Array Slot), W p l e R s m args below meth c H locs cells slots Q (F0 m (pc + 1) la (.long (f x y) :: rest)) → W p l e R s m args below meth c H locs cells slots Q (F0 m pc la (.long y :: .long x :: rest))) : jv_Ok p l e R s m args below meth c D dA A z0 y0 M Q pc ls st h o := by
  unfold jv_l2 at hs
  split at hs
  · obtain ⟨hn, hs⟩ := jv_len_inv hs
    exact jv_pure hs (fun H locs cells slots la hL w => k hn _ _ _ H locs cells slots la w)
  · cases hs
theorem jv_to_inv {pc t : Nat} {off : Int} (hs : jv_to pc off = some t) : (pc : Int) + off = (t : Int) := by
  unfold jv_to at hs
  split at hs
  · cases hs
    omega
  · cases hs
/-- a jump -/
theorem js_go {off : Int} {b : Bool} {rest : List Value} (hs : jv_go pc off b ls rest h = some o) (k : ∀ t : Nat, (pc : Int) + off = (t : Int) → ∀ (H : Heap) (locs : List Loc) (cells slots : Nat) (la : Array Slot), W p l e R s m args below meth c H locs cells slots Q (F0 m (if b then t else pc + 3) la rest) → W p l e R s m args below meth c H locs cells slots Q (F0 m pc la st)) : jv_Ok p l e R s m args below meth c D dA A z0 y0 M Q pc ls st h o := by
  unfold jv_go at hs
  split at hs
  · rename_i t ht
    exact jv_pure hs (fun H locs cells slots la hL w => k t (jv_to_inv ht) H locs cells slots la w)
  · cases hs
end JX
