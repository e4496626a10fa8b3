/-! the fixed point, the relation between the abstract heap and the real one -/
theorem jv_loop_det {call : jv_F} {M n k pc : Nat} {ls : jv_L} {st : List Value} {h : jv_H} {z y : jv_Z} (h1 : jv_loop call M n pc ls st h = some z) (h2 : jv_loop call M k pc ls st h = some y) : z = y := by
  have e1 := jv_loop_mono call M n k pc ls st h z h1
  have e2 := jv_loop_mono call M k n pc ls st h y h2
  rw [Nat.add_comm k n] at e2
  rw [e1] at e2
  exact Option.some.inj e2
theorem jv_ev_some {call : jv_F} {M pc : Nat} {ls : jv_L} {st : List Value} {h : jv_H} {z : jv_Z} : jv_ev call M pc ls st h = some z ↔ ∃ n, jv_loop call M n pc ls st h = some z := by
  unfold jv_ev
  by_cases hz : ∃ z : jv_Z, ∃ n, jv_loop call M n pc ls st h = some z
  · rw [dif_pos hz]
    obtain ⟨k, hk⟩ := Classical.choose_spec hz
    constructor
    · intro e
      exact ⟨k, by rw [hk]; exact e⟩
    · rintro ⟨n, hn⟩
      rw [jv_loop_det hk hn]
  · rw [dif_neg hz]
    constructor
    · intro e
      cases e
    · rintro ⟨n, hn⟩
      exact absurd ⟨z, n, hn⟩ hz
theorem jv_ev_none {call : jv_F} {M pc : Nat} {ls : jv_L} {st : List Value} {h : jv_H} : jv_ev call M pc ls st h = none ↔ ∀ n, jv_loop call M n pc ls st h = none := by
  constructor
  · intro e n
    cases hn : jv_loop call M n pc ls st h with
    | none => rfl
    | some z => rw [jv_ev_some.mpr ⟨n, hn⟩] at e; cases e
  · intro e
    cases hz : jv_ev call M pc ls st h with
    | none => rfl
    | some z =>
      obtain ⟨n, hn⟩ := jv_ev_some.mp hz
      rw [e n] at hn
      cases hn
theorem jv_ev_eq (call : jv_F) (M pc : Nat) (ls : jv_L) (st : List Value) (h : jv_H) : jv_ev call M pc ls st h = match jv_step call M pc ls st h with
    | none => none
    | some (.inr z) => some z
    | some (.inl (pc', ls', st', h')) => jv_ev call M pc' ls' st' h' := by
  cases hs : jv_step call M pc ls st h with
  | none =>
    refine jv_ev_none.mpr (fun n => ?_)
    cases n with
    | zero => rfl
    | succ n => unfold jv_loop; rw [hs]
  | some o =>
    cases o with
    | inr z => exact jv_ev_some.mpr ⟨1, by unfold jv_loop; rw [hs]⟩
    | inl y =>
      obtain ⟨pc', ls', st', h'⟩ := y
      show _ = jv_ev call M pc' ls' st' h'
      have key : ∀ n, jv_loop call M (n + 1) pc ls st h = jv_loop call M n pc' ls' st' h' := fun n => by
        rw [jv_loop.eq_def]
        simp only [hs]
      cases he : jv_ev call M pc' ls' st' h' with
      | none =>
        have h1 := jv_ev_none.mp he
        refine jv_ev_none.mpr (fun n => ?_)
        cases n with
        | zero => rfl
        | succ n => rw [key]; exact h1 n
      | some z =>
        obtain ⟨n, hn⟩ := jv_ev_some.mp he
        exact jv_ev_some.mpr ⟨n + 1, by rw [key]; exact hn⟩
def jv_sl (as : List Value) : jv_L := as.flatMap fun v => if v.category = 2 then [some v, none] else [some v]
def jv_ent (y : Nat) (as : List Value) : jv_L := jv_sl as ++ List.replicate (jt_maxL y - (jv_sl as).length) none
noncomputable def jv_run : Nat → jv_F
  | 0 => fun _ _ _ => none
  | d + 1 => fun y as h => if (jv_sl as).length ≤ jt_maxL y then jv_ev (jv_run d) y 0 (jv_ent y as) [] h else none
/-! the heap grows -/
def jv_scr (x : jv_C) : Bool := match x with
  | .inr (k, _, _) => decide (k = jt_scr)
  | _ => false
def jv_G (h h' : jv_H) : Prop := h.2.1 ≤ h'.2.1 ∧ h.2.2 ≤ h'.2.2 ∧ ∀ a x, h'.1 a = some x → jv_scr x = false → (∃ y, h.1 a = some y ∧ jv_scr y = false) ∨ h.2.1 ≤ a
theorem jv_G.rf {h : jv_H} : jv_G h h := ⟨Nat.le_refl _, Nat.le_refl _, fun _ x e f => Or.inl ⟨x, e, f⟩⟩
theorem jv_G.tr {h h1 h2 : jv_H} (a : jv_G h h1) (b : jv_G h1 h2) : jv_G h h2 := by
  refine ⟨Nat.le_trans a.1 b.1, Nat.le_trans a.2.1 b.2.1, fun q x e f => ?_⟩
  rcases b.2.2 q x e f with ⟨y, e1, f1⟩ | h3
  · exact a.2.2 q y e1 f1
  · exact Or.inr (Nat.le_trans a.1 h3)
theorem jv_G.up {h : jv_H} {a : Nat} {x y : jv_C} (hx : h.1 a = some x) (hs : jv_scr x = false) : jv_G h (jv_up h.1 a y, h.2) := by
  refine ⟨Nat.le_refl _, Nat.le_refl _, fun q z e f => ?_⟩
  by_cases hq : q = a
  · subst hq
    exact Or.inl ⟨x, hx, hs⟩
  · simp only [jv_up, if_neg hq] at e
    exact Or.inl ⟨z, e, f⟩
theorem jv_G.push {h : jv_H} {y : jv_C} {n : Nat} : jv_G h (jv_up h.1 h.2.1 y, h.2.1 + 1, h.2.2 + n) := by
  refine ⟨Nat.le_succ _, Nat.le_add_right _ _, fun q z e f => ?_⟩
  by_cases hq : q = h.2.1
  · exact Or.inr (Nat.le_of_eq hq.symm)
  · simp only [jv_up, if_neg hq] at e
    exact Or.inl ⟨z, e, f⟩
/-! the relation -/
def jv_K (D : va_G) (dA : Nat → ClassId) (U : State) : Prop :=
  (∀ (c : Nat) (q : vw_C), jt_cl[c]? = some q → u_Kn U q.1 q.2.1 q.2.2 (D.1 c) (D.2 c)) ∧
  (∀ (k : Nat) (ty : FieldType), ¬ k = jt_scr → jt_at[k]? = some ty → ArrOfT U (dA k) ty ∧ va_RA U (dA k) ty) ∧
  (∀ C : String, FieldType.object C ∈ jt_at → va_AO C U) ∧ ∀ q ∈ jt_mn, va_Nw (jt_wmn q) U
def jv_at (D : va_G) (dA : Nat → ClassId) (U : State) (a : Nat) (x : jv_C) (H : Heap) : Prop := match x with
  | .inl (ci, fs) => ∃ r : vw_C, jt_cl[ci]? = some r ∧ fs.length = r.2.2 ∧ t_OB a (D.1 ci) r.2.2 (D.2 ci) H (vp_V fs)
  | .inr (k, n, f) => if k = jt_scr then ∃ cell : Cell, H[a]? = some cell ∧ U.isArrayOf cell .int ∧ cell.vm ≠ .unknown ∧ cell.slots.size = n ∧ ∀ j : Nat, j < n → cell.slots[j]? = some (f j)
    else (∃ ty, jt_at[k]? = some ty) ∧ H[a]? = some (arrV (dA k) n f)
def jv_R (D : va_G) (dA : Nat → ClassId) (U : State) (h : jv_H) (H : Heap) : Prop := H.size = h.2.1 ∧ ∀ a x, h.1 a = some x → jv_at D dA U a x H
theorem jv_at.kept {D : va_G} {dA : Nat → ClassId} {U : State} {a : Nat} {x : jv_C} {H H1 : Heap} (h : jv_at D dA U a x H) (e : H1[a]? = H[a]?) : jv_at D dA U a x H1 := by
  cases x with
  | inl o =>
    obtain ⟨r, h1, h2, h3⟩ := h
    exact ⟨r, h1, h2, h3.kept e⟩
  | inr o =>
    obtain ⟨k, n, f⟩ := o
    unfold jv_at at h ⊢
    simp only at h ⊢
    split at h
    · rw [if_pos ‹_›]
      obtain ⟨cell, h1, h2⟩ := h
      exact ⟨cell, e.trans h1, h2⟩
    · rw [if_neg ‹_›]
      exact ⟨h.1, e.trans h.2⟩
theorem jv_at.lt {D : va_G} {dA : Nat → ClassId} {U : State} {a : Nat} {x : jv_C} {H : Heap} (h : jv_at D dA U a x H) : a < H.size := by
  cases x with
  | inl o =>
    obtain ⟨r, -, -, cell, h3, -⟩ := h
    exact (Array.getElem?_eq_some_iff.mp h3).1
  | inr o =>
    obtain ⟨k, n, f⟩ := o
    unfold jv_at at h
    simp only at h
    split at h
    · obtain ⟨cell, h1, h2⟩ := h
      exact (Array.getElem?_eq_some_iff.mp h1).1
    · exact (Array.getElem?_eq_some_iff.mp h.2).1
theorem jv_at.moved {D : va_G} {dA : Nat → ClassId} {U V : State} {a : Nat} {x : jv_C} {H : Heap} (hvm : U.vm.Alike V.vm) (h : jv_at D dA U a x H) : jv_at D dA V a x H := by
  cases x with
  | inl o => exact h
  | inr o =>
    obtain ⟨k, n, f⟩ := o
    unfold jv_at at h ⊢
    simp only at h ⊢
    split at h
    · rw [if_pos ‹_›]
      obtain ⟨cell, h1, h2, h3⟩ := h
      exact ⟨cell, h1, State.isArrayOf_alike hvm h2, h3⟩
    · rw [if_neg ‹_›]
      exact h
theorem jv_R.moved {D : va_G} {dA : Nat → ClassId} {U V : State} {h : jv_H} {H : Heap} (hvm : U.vm.Alike V.vm) (hR : jv_R D dA U h H) : jv_R D dA V h H := ⟨hR.1, fun a x e => (hR.2 a x e).moved hvm⟩
theorem jv_R.put {D : va_G} {dA : Nat → ClassId} {U : State} {h : jv_H} {H H1 : Heap} {a : Nat} {y : jv_C} (hR : jv_R D dA U h H) (z : H1.size = H.size) (oq : ∀ q : Nat, q ≠ a → H1[q]? = H[q]?) (hy : jv_at D dA U a y H1) : jv_R D dA U (jv_up h.1 a y, h.2) H1 := by
  refine ⟨z.trans hR.1, fun q x e => ?_⟩
  by_cases hq : q = a
  · subst hq
    simp only [jv_up, if_pos] at e
    cases e
    exact hy
  · simp only [jv_up, if_neg hq] at e
    exact (hR.2 q x e).kept (oq q hq)
theorem jv_R.push {D : va_G} {dA : Nat → ClassId} {U : State} {h : jv_H} {H H1 : Heap} {y : jv_C} {n : Nat} (hR : jv_R D dA U h H) (z : H1.size = h.2.1 + 1) (oq : ∀ q : Nat, q < h.2.1 → H1[q]? = H[q]?) (hy : jv_at D dA U h.2.1 y H1) : jv_R D dA U (jv_up h.1 h.2.1 y, h.2.1 + 1, h.2.2 + n) H1 := by
  refine ⟨z, fun q x e => ?_⟩
  by_cases hq : q = h.2.1
  · subst hq
    simp only [jv_up, if_pos] at e
    cases e
    exact hy
  · simp only [jv_up, if_neg hq] at e
    have hl : q < h.2.1 := by rw [← hR.1]; exact (hR.2 q x e).lt
    exact (hR.2 q x e).kept (oq q hl)
theorem jv_K.warm {D : va_G} {dA : Nat → ClassId} {s U : State} (hW : s.WarmedH U.vm) (h : jv_K D dA s) : jv_K D dA U := by
  obtain ⟨h1, h2, h3, h4⟩ := h
  refine ⟨fun c q e => u_Kn_moved hW.alike (h1 c q e), fun k ty e f => ⟨arrOfT_moved hW.alike (h2 k ty e f).1, (h2 k ty e f).2.moved hW.alike⟩, fun C e => (h3 C e).moved hW.alike, fun q e => va_Nw.warmM hW (h4 q e)⟩
theorem jv_K.same {D : va_G} {dA : Nat → ClassId} {s U : State} (hv : s.vm = U.vm) (h : jv_K D dA s) : jv_K D dA U := by
  obtain ⟨h1, h2, h3, h4⟩ := h
  have hA : s.vm.Alike U.vm := by rw [hv]; exact Vm.Alike.refl _
  refine ⟨fun c q e => u_Kn_moved hA (h1 c q e), fun k ty e f => ⟨arrOfT_moved hA (h2 k ty e f).1, (h2 k ty e f).2.moved hA⟩, fun C e => (h3 C e).moved hA, fun q e => va_Nw.same rfl hv (h4 q e)⟩
/-! locals -/
def jv_lp (ls : jv_L) : List (Nat × Value) := (List.range ls.length).filterMap (fun k => (ls[k]?).join.map (fun v => (k, v)))
theorem jv_lp_mem {ls : jv_L} {k : Nat} {v : Value} : (k, v) ∈ jv_lp ls ↔ ls[k]? = some (some v) := by
  unfold jv_lp
  rw [List.mem_filterMap]
  constructor
  · rintro ⟨i, hi, e⟩
    cases hj : ls[i]? with
    | none => rw [hj] at e; cases e
    | some o =>
      rw [hj] at e
      cases o with
      | none => cases e
      | some w => cases e; exact hj
  · intro e
    refine ⟨k, List.mem_range.mpr (List.getElem?_eq_some_iff.mp e).1, ?_⟩
    rw [e]
    rfl
def jv_Lr (ls : jv_L) (la : Array Slot) : Prop := lv_has la ls.length (jv_lp ls)
theorem jv_Lr.at {ls : jv_L} {la : Array Slot} (h : jv_Lr ls la) {i : Nat} {v : Value} (e : ls[i]? = some (some v)) : la[i]? = some (.val v) := h.2.2 (i, v) (jv_lp_mem.mpr e)
theorem jv_kill_len (ls : jv_L) (i : Nat) : (jv_kill ls i).length = ls.length := by
  cases i with
  | zero => rfl
  | succ j => unfold jv_kill; simp only; split <;> simp
theorem jv_st1_len (ls : jv_L) (i : Nat) (v : Value) : (jv_st1 ls i v).length = ls.length := by simp [jv_st1, jv_kill_len]
theorem jv_st2_len (ls : jv_L) (i : Nat) (v : Value) : (jv_st2 ls i v).length = ls.length := by simp [jv_st2, jv_kill_len]
theorem jv_kill_get {ls : jv_L} {i k : Nat} {w : Value} (h : (jv_kill ls i)[k]? = some (some w)) : ls[k]? = some (some w) ∧ ¬ (k + 1 = i ∧ w.category = 2) := by
  cases i with
  | zero => exact ⟨h, fun q => absurd q.1 (by omega)⟩
  | succ j =>
    unfold jv_kill at h
    simp only at h
    split at h
    · by_cases hk : k = j
      · subst hk
        rw [List.getElem?_set_self'] at h
        cases hj : ls[k]? with
        | none => rw [hj] at h; cases h
        | some o => rw [hj] at h; simp at h
      · rw [List.getElem?_set_ne (Ne.symm hk)] at h
        exact ⟨h, fun q => hk (by omega)⟩
    · rename_i hb
      refine ⟨h, fun q => hb ?_⟩
      have hk : k = j := by omega
      subst hk
      simp [jv_is2, h, q.2]
theorem jv_st1_get {ls : jv_L} {i k : Nat} {v w : Value} (h : (jv_st1 ls i v)[k]? = some (some w)) : (k = i ∧ w = v) ∨ (¬ k = i ∧ ls[k]? = some (some w) ∧ ¬ (k + 1 = i ∧ w.category = 2)) := by
  unfold jv_st1 at h
  by_cases hk : k = i
  · subst hk
    rw [List.getElem?_set_self'] at h
    cases hj : (jv_kill ls k)[k]? with
    | none => rw [hj] at h; cases h
    | some o => rw [hj] at h; simp at h; exact Or.inl ⟨rfl, h.symm⟩
  · rw [List.getElem?_set_ne (Ne.symm hk)] at h
    exact Or.inr ⟨hk, jv_kill_get h⟩
theorem jv_st2_get {ls : jv_L} {i k : Nat} {v w : Value} (h : (jv_st2 ls i v)[k]? = some (some w)) : (k = i ∧ w = v) ∨ (¬ k = i ∧ ¬ k = i + 1 ∧ ls[k]? = some (some w) ∧ ¬ (k + 1 = i ∧ w.category = 2)) := by
  unfold jv_st2 at h
  by_cases hk : k = i + 1
  · subst hk
    rw [List.getElem?_set_self'] at h
    cases hj : ((jv_kill ls i).set i (some v))[i + 1]? with
    | none => rw [hj] at h; cases h
    | some o => rw [hj] at h; simp at h
  · rw [List.getElem?_set_ne (Ne.symm hk)] at h
    rcases jv_st1_get (ls := ls) (i := i) (v := v) h with e | ⟨e1, e2, e3⟩
    · exact Or.inl e
    · exact Or.inr ⟨e1, hk, e2, e3⟩
theorem jv_Lr.st1 {ls : jv_L} {la : Array Slot} {i : Nat} {v : Value} (h : lv_has la ls.length ((i, v) :: (jv_lp ls).filter (fun q => !(q.1 == i) && !(q.1 + 1 == i && q.2.category == 2)))) : jv_Lr (jv_st1 ls i v) la := by
  refine ⟨h.1.trans (jv_st1_len ls i v).symm, h.2.1, ?_⟩
  rintro ⟨k, w⟩ hq
  rcases jv_st1_get (jv_lp_mem.mp hq) with ⟨rfl, rfl⟩ | ⟨e1, e2, e3⟩
  · exact h.2.2 _ List.mem_cons_self
  · refine h.2.2 (k, w) (List.mem_cons_of_mem _ (List.mem_filter.mpr ⟨jv_lp_mem.mpr e2, ?_⟩))
    by_cases h1 : k + 1 = i
    · have h2 : ¬ w.category = 2 := fun q => e3 ⟨h1, q⟩
      simp [e1, h2]
    · simp [e1, h1]
theorem jv_Lr.st2 {ls : jv_L} {la : Array Slot} {i : Nat} {v : Value} (h : lv_has la ls.length ((i, v) :: (jv_lp ls).filter (fun q => !(q.1 == i) && (!(q.1 == i + 1) && !(q.1 + 1 == i && q.2.category == 2))))) : jv_Lr (jv_st2 ls i v) la := by
  refine ⟨h.1.trans (jv_st2_len ls i v).symm, h.2.1, ?_⟩
  rintro ⟨k, w⟩ hq
  rcases jv_st2_get (jv_lp_mem.mp hq) with ⟨rfl, rfl⟩ | ⟨e1, e0, e2, e3⟩
  · exact h.2.2 _ List.mem_cons_self
  · refine h.2.2 (k, w) (List.mem_cons_of_mem _ (List.mem_filter.mpr ⟨jv_lp_mem.mpr e2, ?_⟩))
    by_cases h1 : k + 1 = i
    · have h2 : ¬ w.category = 2 := fun q => e3 ⟨h1, q⟩
      simp [e1, e0, h2]
    · simp [e1, e0, h1]
