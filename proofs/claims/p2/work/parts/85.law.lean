-- ===== end of PART A; then your names; then what follows =====
/-! THE CLAIM OUT OF ONE WALK OF THE LAW'S BODY. Your part is whole_start (and what it stands on); all else here is the same for every law, but numbers. -/
def R_law : String := "DrumMachineLaw"
def lw_P (b : Addr) (xs : List Int32) (args : Array Value) (s : State) : Prop := args = #[.ref b] ∧ s.IntsAt b xs ∧ xs.length ≤ 5632 ∧ (Jvm.Cond.and given_1 narrow_1).before args s = true
def lw_Q (_ : Array Value) (s : State) (o : Outcome) (t : State) : Prop := o = .returned (some (.int 1)) ∧ Framed s o t [] 600000 7302250
def lw_Z (below : List Frame) (a : Array Value) (s : State) : State → Prop := fun t => ∃ o, t.status = .running ∧ Ended t below o ∧ lw_Q a s o t
/-- the law's own end, with 1 on the stack, nothing written that was there before, its room as the claim has it -/
theorem lw_ret {p : Program} {l : Launch} {e : Env} {s : State} {m : MethodId} {below : List Frame} {meth : Method} {c : Code} {b : Nat} (hx : p.tables.exec = Jvm.exec) (hb : c.code = code) (hr : meth.sig.returnType = ret) (hlocks : meth.locks = false) {pc : Nat} {H : Heap} {ls : Array Slot} (hdg : decode code pc = .ok (.ireturn, 1)) : W p l e room_1 s m #[Value.ref b] below meth c H [] 600000 7302250 (lw_Z below #[Value.ref b] s) (F0 m pc ls [.int 1]) := by
  intro T hT X
  obtain ⟨fs, hret, hrun, hended, hW, hframe⟩ := X.leave (v := some (.int 1)) (hlocks := hlocks) (fun h => by rw [hr] at h; cases h)
  have hmeth' : T.vm.method? m = some meth := X.method'
  refine ⟨T.setFrames fs, ?_, .returned (some (.int 1)), hrun, hended, rfl, ⟨_, rfl⟩, hW, hframe⟩
  jvm_step X.here [X.here.top, hx, hb, hdg, hmeth', hr, ret, narrow_b1]
  (try refine ⟨rfl, ?_⟩); (try refine ⟨rfl, ?_⟩)
  first | (intro acts; rw [hret _ acts rfl rfl rfl]) | rw [hret _ _ rfl rfl rfl]
  exact Steps.refl _
/-- what holds at the law's entry: the machine, the code, the tables' words (any of lw_tbl by 'hts w (by decide +kernel)'), the script of L ints xs at the cell b, what the Statement gives of the start (any of its parts by flat_of_before) -/
def lw_At (p : Program) (s : State) (m : MethodId) (meth : Method) (c : Code) (b L : Nat) (xs : Nat → Int32) : Prop :=
  p.tables.exec = Jvm.exec ∧ c.code = code ∧ meth.sig.returnType = ret ∧ c.maxLocals = 4 ∧ s.vm.findClass R_law = some m.cls ∧ (∀ w ∈ lw_tbl, w.before #[Value.ref b] s = true) ∧ va_X b L xs s s.heap ∧ b < s.heap.size ∧ meth.locks = false ∧ (Jvm.Cond.and given_1 narrow_1).before #[Value.ref b] s = true
/-- the heap at the law's entry: the script alone is known -/
def jv_h0 (b L : Nat) (xs : Nat → Int32) (sz : Nat) : jv_H := (fun q => if q = b then some (.inr (jt_scr, L, fun j => .int (xs j))) else none, sz, 0)
theorem jv_K_of {s : State} {args : Array Value} (hts : ∀ w ∈ lw_tbl, w.before args s = true) : ∃ (D : va_G) (dA : Nat → ClassId), jv_K D dA s := by
  have hk : ∀ c : Nat, ∃ q : ClassId × (Nat → Nat), ∀ r : vw_C, jt_cl[c]? = some r → u_Kn s r.1 r.2.1 r.2.2 q.1 q.2 := by
    intro c
    cases hr : jt_cl[c]? with
    | none => exact ⟨(0, fun _ => 0), fun r h => by cases h⟩
    | some r =>
      have hw := jt_cl_in r (List.mem_of_getElem? hr)
      obtain ⟨cC, iS, h⟩ := u_known (C := r.1) (T := r.2.1) (N := r.2.2) (n := r.2.2) hts (fun w h => hw w (List.mem_cons_of_mem _ (List.mem_cons_of_mem _ h))) (hts _ (hw _ List.mem_cons_self))
      exact ⟨(cC, iS), fun r' h' => by cases h'; exact h⟩
  have ha : ∀ k : Nat, ∃ cA : ClassId, ∀ ty : FieldType, ¬ k = jt_scr → jt_at[k]? = some ty → ArrOfT s cA ty ∧ va_RA s cA ty := by
    intro k
    cases hr : jt_at[k]? with
    | none => exact ⟨0, fun ty _ h => by cases h⟩
    | some ty =>
      by_cases hp : jt_prim ty = true
      · obtain ⟨cA, kA, comp, h1, h2, h3⟩ := Cond.arrayClass_spec (hts _ (jt_ac_in k ty hr hp))
        refine ⟨cA, fun ty' _ h => ?_⟩
        cases h
        refine ⟨fun n z => ⟨(fun k h => by cases h), kA, h2, comp, h3⟩, ?_⟩
        cases ty <;> first | exact h1 | cases hp
      · by_cases hs : k = jt_scr
        · exact ⟨0, fun ty _ h => absurd hs ‹_›⟩
        · obtain ⟨C, rfl⟩ : ∃ C, ty = .object C := jt_ob_of k ty hr (by simpa using hp)
          obtain ⟨comp, cA, kA, h1, h2, h3, h4, h5⟩ := Cond.arrayOver_spec (hts _ (jt_ao_in k C hr))
          refine ⟨cA, fun ty' _ h => ?_⟩
          cases h
          exact ⟨fun n z => ⟨(fun k h => by cases h), kA, h3, comp, h4⟩, kA, comp, h3, h4, h1, h5⟩
  refine ⟨(fun c => (Classical.choose (hk c)).1, fun c => (Classical.choose (hk c)).2), fun k => Classical.choose (ha k), fun c q h => Classical.choose_spec (hk c) q h, fun k ty h1 h2 => Classical.choose_spec (ha k) ty h1 h2, fun C h => ?_, fun q hq => va_Nw.of rfl (hts _ (jt_mn_in q hq))⟩
  obtain ⟨k, hk⟩ := List.getElem?_of_mem h
  exact va_AO.of (hts _ (jt_ao_in k C hk))
/-- the claim, said of the abstract machine -/
def jv_Claim (N : Nat) : Prop := ∀ (b L : Nat) (xs : Nat → Int32) (sz : Nat), L ≤ N → b < sz → ∃ h' : jv_H, jv_ev (jv_run 8) jt_law 0 (jv_ent jt_law [.ref b]) [] (jv_h0 b L xs sz) = some (some (.int 1), h') ∧ h'.2.1 ≤ sz + 600000 ∧ h'.2.2 ≤ 7302250
theorem jv_start (HF : jv_Claim 5632) {p : Program} {e : Env} {s : State} {m : MethodId} {below : List Frame} {meth : Method} {c : Code} (l : Launch) {b L : Nat} {xs : Nat → Int32} (hL : L ≤ 5632) (C0 : lw_At p s m meth c b L xs) : W p l e room_1 s m #[Value.ref b] below meth c s.heap [] 0 0 (lw_Z below #[Value.ref b] s) (entryFrame m ([Value.ref b] : List Value).toArray 4) := by
  obtain ⟨hx, hb, hr, hml, hown, hts, hX, hbl, hlocks, hgv⟩ := C0
  obtain ⟨D, dA, hK⟩ := jv_K_of hts
  obtain ⟨h', hev, hc1, hc2⟩ := HF b L xs s.heap.size hL hbl
  obtain ⟨k, hk⟩ := jv_ev_some.mp hev
  have X : jv_X p s m #[Value.ref b] meth c D dA jt_law := ⟨hx, hb, hml, hown, fun w hw => hts w (List.mem_filter.mp hw).1, hK, fun q => absurd q (by decide)⟩
  have hlen : (jv_sl [Value.ref b]).length ≤ jt_maxL jt_law := by show 1 ≤ _; decide
  rw [lg_entry_eq]
  refine (jv_body (p := p) (l := l) (e := e) (R := room_1) (s := s) (m := m) (args := #[Value.ref b]) (below := below) (meth := meth) (c := c) (A := fun q => s.heap.size ≤ q) (z0 := s.heap.size) (y0 := 0) (Q := lw_Z below #[Value.ref b] s) (d := 8) X (fun y as h r h' hy hr => jv_sound l D dA 8 y as h r h' hy hr) (by decide) (by decide) k 0 _ [] _ hk).2 hc1 (by rw [Nat.zero_add]; exact hc2) ?_ s.heap [] 0 0 _ ⟨?_, va_S.rf, ?_, rfl, rfl, fun q hq => hq⟩ (jv_entry hlen) (jv_ent_len hlen)
  · intro pc ls st hrt H locs cells slots la hW hL hn
    obtain ⟨w1, w2, w3, w4, w5, w6⟩ := hW
    rcases hrt with ⟨v, ty, e1, e2, e3, e4, e5⟩ | ⟨v, e1, e2, e3, e4⟩ | ⟨v, C, e1, e2, e3, e4, e5⟩ | ⟨e1, e2, e3, e4⟩
    · cases e5
      subst e2
      refine va_forget (fun q hq => w2.2.2 q hq) ?_
      simp only at w4 w5
      exact W.widen (k := 600000) (n := 7302250) (by omega) (by omega) (lw_ret hx hb hr hlocks e1)
    · cases e4
    · rcases e3 with rfl | ⟨a, rfl⟩ <;> cases e5
    · cases e4
  · refine ⟨rfl, fun a x e => ?_⟩
    unfold jv_h0 at e
    simp only at e
    split at e
    · rename_i ha
      subst ha
      cases e
      obtain ⟨scr, g1, g2, g3, g4, g5⟩ := hX
      unfold jv_at
      simp only [if_true]
      exact ⟨scr, g1, g2, g3, g4, g5⟩
    · cases e
  · intro a x e f
    unfold jv_h0 at e
    simp only at e
    split at e
    · cases e
      simp [jv_scr] at f
    · cases e
