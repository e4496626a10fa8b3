/-! arrays -/
theorem jt_scr_ty {ty : FieldType} (h : jt_at[jt_scr]? = some ty) : ty = .int := by
  have h1 : jt_at[jt_scr]? = some .int := by decide
  exact Option.some.inj (h.symm.trans h1)
theorem jv_arr {D : va_G} {dA : Nat → ClassId} {s : State} {a k n : Nat} {f : Nat → Value} {H : Heap} {ty : FieldType} (hK : jv_K D dA s) (h : jv_at D dA s a (.inr (k, n, f)) H) (ht : jt_at[k]? = some ty) : ∃ cell : Cell, H[a]? = some cell ∧ s.isArrayOf cell ty ∧ cell.vm ≠ .unknown ∧ cell.slots.size = n ∧ ∀ j : Nat, j < n → cell.slots[j]? = some (f j) := by
  unfold jv_at at h
  simp only at h
  split at h
  · rename_i hk
    subst hk
    rw [jt_scr_ty ht]
    exact h
  · rename_i hk
    exact ⟨_, h.2, (hK.2.1 k ty hk ht).1 n f, (fun q => by cases q), arrV_size _ _ _, fun j hj => arrV_read _ _ hj⟩
theorem jv_arrW {D : va_G} {dA : Nat → ClassId} {s : State} {a k n : Nat} {f : Nat → Value} {H : Heap} (h : jv_at D dA s a (.inr (k, n, f)) H) (hk : ¬ k = jt_scr) : H[a]? = some (arrV (dA k) n f) := by
  unfold jv_at at h
  simp only at h
  rw [if_neg hk] at h
  exact h.2
theorem jv_arrV {D : va_G} {dA : Nat → ClassId} {s : State} {a k n : Nat} {f : Nat → Value} {H : Heap} {ty : FieldType} (hk : ¬ k = jt_scr) (ht : jt_at[k]? = some ty) (h : H[a]? = some (arrV (dA k) n f)) : jv_at D dA s a (.inr (k, n, f)) H := by
  unfold jv_at
  simp only
  rw [if_neg hk]
  exact ⟨⟨ty, ht⟩, h⟩
theorem jv_scrF {k n : Nat} {f : Nat → Value} (hk : ¬ k = jt_scr) : jv_scr (.inr (k, n, f)) = false := by simp [jv_scr, hk]
section JZ
variable {p : Program} {l : Launch} {e : Env} {R : Room} {s : State} {m : MethodId} {args : Array Value} {below : List Frame} {meth : Method} {c : Code} {Q : State → Prop} {D : va_G} {dA : Nat → ClassId} {A : Nat → Prop} {z0 y0 M n pc : Nat} {ls : jv_L} {st : List Value} {h : jv_H} {call : jv_F} {o : jv_S ⊕ jv_Z}
theorem js_arraylength (X : jv_X p s m args meth c D dA M) (hd : decode (jt_code M) pc = .ok (.arraylength, n)) (hs : jv_ins call M .arraylength n pc ls st h = some o) : jv_Ok p l e R s m args below meth c D dA A z0 y0 M Q pc ls st h o := by
  unfold jv_ins at hs
  simp only at hs
  split at hs
  · rename_i a rest
    split at hs
    · rename_i z hz
      obtain ⟨hn, hs⟩ := jv_len_inv hs
      subst hn
      cases hs
      refine ⟨jv_G.rf, rfl, fun _ _ w H locs cells slots la hW hL hn => ?_⟩
      unfold jv_ln at hz
      split at hz
      · rename_i k n f hx
        cases hz
        have hat := hW.1.2 a _ hx
        obtain ⟨ty, hty⟩ : ∃ ty, jt_at[k]? = some ty := by
          by_cases hk : k = jt_scr
          · exact ⟨.int, by rw [hk]; decide⟩
          · unfold jv_at at hat
            simp only at hat
            rw [if_neg hk] at hat
            exact hat.1
        obtain ⟨cell, q1, q2, q3, q4, q5⟩ := jv_arr X.2.2.2.2.2.1 hat hty
        exact W.alen X.1 X.2.1 q1 q2 (by rw [q4]) rfl rfl hd (w H locs cells slots la hW hL hn)
      · cases hz
    · cases hs
  · cases hs
theorem js_iaload (X : jv_X p s m args meth c D dA M) (hd : decode (jt_code M) pc = .ok (.iaload, n)) (hs : jv_ins call M .iaload n pc ls st h = some o) : jv_Ok p l e R s m args below meth c D dA A z0 y0 M Q pc ls st h o := by
  unfold jv_ins at hs
  simp only at hs
  split at hs
  · split at hs
    · rename_i hv
      obtain ⟨hn, hs⟩ := jv_len_inv hs
      subst hn
      cases hs
      refine ⟨jv_G.rf, rfl, fun _ _ w H locs cells slots la hW hL hn => ?_⟩
      obtain ⟨k, z, f, hx, ht, hi, rfl⟩ := jv_al_inv hv
      obtain ⟨cell, q1, q2, q3, q4, q5⟩ := jv_arr X.2.2.2.2.2.1 (hW.1.2 _ _ hx) ht
      exact W.iald X.1 X.2.1 q1 q2 q3 (by rw [q4]; exact hi) (q5 _ (Nat.not_le.mp fun q => hi (Or.inr q))) rfl rfl hd (w H locs cells slots la hW hL hn)
    · cases hs
  · cases hs
theorem js_laload (X : jv_X p s m args meth c D dA M) (hd : decode (jt_code M) pc = .ok (.laload, n)) (hs : jv_ins call M .laload n pc ls st h = some o) : jv_Ok p l e R s m args below meth c D dA A z0 y0 M Q pc ls st h o := by
  unfold jv_ins at hs
  simp only at hs
  split at hs
  · split at hs
    · rename_i hv
      obtain ⟨hn, hs⟩ := jv_len_inv hs
      subst hn
      cases hs
      refine ⟨jv_G.rf, rfl, fun _ _ w H locs cells slots la hW hL hn => ?_⟩
      obtain ⟨k, z, f, hx, ht, hi, rfl⟩ := jv_al_inv hv
      obtain ⟨cell, q1, q2, q3, q4, q5⟩ := jv_arr X.2.2.2.2.2.1 (hW.1.2 _ _ hx) ht
      exact W.lald X.1 X.2.1 q1 q2 q3 (by rw [q4]; exact hi) (q5 _ (Nat.not_le.mp fun q => hi (Or.inr q))) rfl rfl hd (w H locs cells slots la hW hL hn)
    · cases hs
  · cases hs
theorem js_baload (X : jv_X p s m args meth c D dA M) (hd : decode (jt_code M) pc = .ok (.baload, n)) (hs : jv_ins call M .baload n pc ls st h = some o) : jv_Ok p l e R s m args below meth c D dA A z0 y0 M Q pc ls st h o := by
  unfold jv_ins at hs
  simp only at hs
  split at hs
  · split at hs
    · rename_i hv
      obtain ⟨hn, hs⟩ := jv_len_inv hs
      subst hn
      cases hs
      refine ⟨jv_G.rf, rfl, fun _ _ w H locs cells slots la hW hL hn => ?_⟩
      obtain ⟨k, z, f, hx, ht, hi, rfl⟩ := jv_al_inv hv
      obtain ⟨cell, q1, q2, q3, q4, q5⟩ := jv_arr X.2.2.2.2.2.1 (hW.1.2 _ _ hx) ht
      exact W.zald X.1 X.2.1 q1 q2 q3 (by rw [q4]; exact hi) (q5 _ (Nat.not_le.mp fun q => hi (Or.inr q))) rfl rfl hd (w H locs cells slots la hW hL hn)
    · cases hs
  · cases hs
theorem js_aaload (X : jv_X p s m args meth c D dA M) (hd : decode (jt_code M) pc = .ok (.aaload, n)) (hs : jv_ins call M .aaload n pc ls st h = some o) : jv_Ok p l e R s m args below meth c D dA A z0 y0 M Q pc ls st h o := by
  unfold jv_ins at hs
  simp only at hs
  split at hs
  · split at hs
    · split at hs
      · rename_i hv
        obtain ⟨hn, hs⟩ := jv_len_inv hs
        subst hn
        cases hs
        refine ⟨jv_G.rf, rfl, fun _ _ w H locs cells slots la hW hL hn => ?_⟩
        obtain ⟨k, z, f, hx, ht, hi, rfl⟩ := jv_al_inv hv
        obtain ⟨cell, q1, q2, q3, q4, q5⟩ := jv_arr X.2.2.2.2.2.1 (hW.1.2 _ _ hx) ht
        exact W.aald X.1 X.2.1 q1 q2 rfl q3 (by rw [q4]; exact hi) (q5 _ (Nat.not_le.mp fun q => hi (Or.inr q))) rfl rfl hd (w H locs cells slots la hW hL hn)
      · cases hs
    · cases hs
  · cases hs
theorem js_iastore (X : jv_X p s m args meth c D dA M) (hd : decode (jt_code M) pc = .ok (.iastore, n)) (hs : jv_ins call M .iastore n pc ls st h = some o) : jv_Ok p l e R s m args below meth c D dA A z0 y0 M Q pc ls st h o := by
  unfold jv_ins at hs
  simp only at hs
  split at hs
  · split at hs
    · rename_i hv
      obtain ⟨hn, hs⟩ := jv_len_inv hs
      subst hn
      obtain ⟨k, z, f, hx, hk, ht, hi, rfl⟩ := jv_as_inv hv
      cases hs
      refine ⟨jv_G.up hx (jv_scrF hk), rfl, fun _ _ w H locs cells slots la hW hL hn => ?_⟩
      have q1 := jv_arrW (hW.1.2 _ _ hx) hk
      refine W.iast X.1 X.2.1 q1 ((X.2.2.2.2.2.1.2.1 k _ hk ht).1 z f) (fun q => by cases q) (by rw [arrV_size]; exact hi) rfl rfl hd fun H1 e1 z1 o1 => ?_
      rw [arrV_store] at e1
      exact w H1 _ cells slots la (hW.put hx (jv_scrF hk) (jv_scrF hk) z1 o1 (jv_arrV hk ht e1)) hL hn
    · cases hs
  · cases hs
theorem js_lastore (X : jv_X p s m args meth c D dA M) (hd : decode (jt_code M) pc = .ok (.lastore, n)) (hs : jv_ins call M .lastore n pc ls st h = some o) : jv_Ok p l e R s m args below meth c D dA A z0 y0 M Q pc ls st h o := by
  unfold jv_ins at hs
  simp only at hs
  split at hs
  · split at hs
    · rename_i hv
      obtain ⟨hn, hs⟩ := jv_len_inv hs
      subst hn
      obtain ⟨k, z, f, hx, hk, ht, hi, rfl⟩ := jv_as_inv hv
      cases hs
      refine ⟨jv_G.up hx (jv_scrF hk), rfl, fun _ _ w H locs cells slots la hW hL hn => ?_⟩
      have q1 := jv_arrW (hW.1.2 _ _ hx) hk
      refine W.last X.1 X.2.1 q1 ((X.2.2.2.2.2.1.2.1 k _ hk ht).1 z f) (fun q => by cases q) (by rw [arrV_size]; exact hi) rfl rfl hd fun H1 e1 z1 o1 => ?_
      rw [arrV_store] at e1
      exact w H1 _ cells slots la (hW.put hx (jv_scrF hk) (jv_scrF hk) z1 o1 (jv_arrV hk ht e1)) hL hn
    · cases hs
  · cases hs
theorem js_bastore (X : jv_X p s m args meth c D dA M) (hd : decode (jt_code M) pc = .ok (.bastore, n)) (hs : jv_ins call M .bastore n pc ls st h = some o) : jv_Ok p l e R s m args below meth c D dA A z0 y0 M Q pc ls st h o := by
  unfold jv_ins at hs
  simp only at hs
  split at hs
  · split at hs
    · rename_i hv
      obtain ⟨hn, hs⟩ := jv_len_inv hs
      subst hn
      obtain ⟨k, z, f, hx, hk, ht, hi, rfl⟩ := jv_as_inv hv
      cases hs
      refine ⟨jv_G.up hx (jv_scrF hk), rfl, fun _ _ w H locs cells slots la hW hL hn => ?_⟩
      have q1 := jv_arrW (hW.1.2 _ _ hx) hk
      refine W.zast X.1 X.2.1 q1 ((X.2.2.2.2.2.1.2.1 k _ hk ht).1 z f) (fun q => by cases q) (by rw [arrV_size]; exact hi) rfl rfl hd fun H1 e1 z1 o1 => ?_
      rw [arrV_store] at e1
      exact w H1 _ cells slots la (hW.put hx (jv_scrF hk) (jv_scrF hk) z1 o1 (jv_arrV hk ht e1)) hL hn
    · cases hs
  · cases hs
theorem js_aastore (X : jv_X p s m args meth c D dA M) (hd : decode (jt_code M) pc = .ok (.aastore, n)) (hs : jv_ins call M .aastore n pc ls st h = some o) : jv_Ok p l e R s m args below meth c D dA A z0 y0 M Q pc ls st h o := by
  unfold jv_ins at hs
  simp only at hs
  split at hs
  · rename_i v j a rest
    split at hs
    · rename_i C hC
      split at hs
      · rename_i hA
        split at hs
        · rename_i h' hv
          obtain ⟨hn, hs⟩ := jv_len_inv hs
          subst hn
          obtain ⟨k, z, f, hx, hk, ht, hi, rfl⟩ := jv_as_inv hv
          cases hs
          refine ⟨jv_G.up hx (jv_scrF hk), rfl, fun _ _ w H locs cells slots la hW hL hn => ?_⟩
          have q1 := jv_arrW (hW.1.2 _ _ hx) hk
          have hKk := X.2.2.2.2.2.1.2.1 k _ hk ht
          have fin : ∀ H1 : Heap, H1[a]? = some ((arrV (dA k) z f).setSlot j.toNatClampNeg v) → H1.size = H.size → (∀ q, q ≠ a → H1[q]? = H[q]?) → W p l e R s m args below meth c H1 (locs ++ [⟨a, j.toNatClampNeg⟩]) cells slots Q (F0 m (pc + 1) la rest) := fun H1 e1 z1 o1 => by
            rw [arrV_store] at e1
            exact w H1 _ cells slots la (hW.put hx (jv_scrF hk) (jv_scrF hk) z1 o1 (jv_arrV hk ht e1)) hL hn
          cases v with
          | null => exact va_WaastN (C := C) X.1 X.2.1 q1 (hKk.1 z f) (fun q => by cases q) (by rw [arrV_size]; exact hi) rfl rfl hd fin
          | ref q =>
            simp only [jv_isA] at hA
            cases hq : jv_cl h q with
            | none => rw [hq] at hA; cases hA
            | some ci =>
              rw [hq] at hA
              simp only at hA
              cases hr : jt_cl[ci]? with
              | none => rw [hr] at hA; cases hA
              | some r =>
                rw [hr] at hA
                simp only [decide_eq_true_eq] at hA
                unfold jv_cl at hq
                split at hq
                · rename_i ci' fs hxq
                  cases hq
                  obtain ⟨r', hr', -, cellV, g1, g2, g3, -⟩ := hW.1.2 q _ hxq
                  have hcls := (X.2.2.2.2.2.1.1 _ r hr).2
                  obtain ⟨kA, comp, k1, k2, k3, -⟩ := hKk.2
                  rw [← hA] at k3
                  have hcomp : comp = D.1 _ := Option.some.inj (k3.symm.trans hcls.1)
                  subst hcomp
                  obtain ⟨kC, hkC, -⟩ := id hcls.2
                  exact W.aast X.1 X.2.1 q1 (fun q h => by cases h) (fun h => by cases h) k1 k2 rfl hkC ⟨fun q => hi (Or.inl q), by rw [arrV_size]; exact Nat.not_le.mp fun q => hi (Or.inr q)⟩ g1 (fun q h => by rw [g3] at h; cases h) (by rw [g2]; exact hkC) (by rw [g2]; exact va_assign hcls) rfl rfl hd fin
                · cases hq
          | _ => cases hA
        · cases hs
      · cases hs
    · cases hs
  · cases hs
end JZ
/-! calls -/
def jv_A (h : jv_H) : Nat → Prop := fun q => (∃ x, h.1 q = some x ∧ jv_scr x = false) ∨ h.2.1 ≤ q
def jv_Q (D : va_G) (dA : Nat → ClassId) (h : jv_H) (r : Option Value) (h' : jv_H) : Array Value → State → Outcome → State → Prop := fun _ st o t => o = .returned r ∧ jv_R D dA t h' t.heap ∧ va_F (jv_A h) st t
def jt_ws (y : Nat) : List Cond := .code (jt_m y).1 (jt_code y) (jt_maxL y) (jt_ret y) :: jt_gd
def jv_rm (d : Nat) (h h' : jv_H) : Room := { frames := d, cells := h'.2.1 - h.2.1, slots := h'.2.2 - h.2.2, locals := 32 * d }
def jv_Met (l : Launch) (D : va_G) (dA : Nat → ClassId) (d y : Nat) (as : List Value) (h : jv_H) (r : Option Value) (h' : jv_H) : Prop :=
  Met l (jt_m y).1 (jt_ws y) (jv_rm d h h') (va_Pc as (fun U => jv_R D dA U h U.heap ∧ jv_K D dA U)) (jv_Q D dA h r h') (h'.2.1 - h.2.1) (h'.2.2 - h.2.2) (jv_A h)
theorem jt_m_in {y : Nat} (hy : y < jt_mc.length) : jt_m y ∈ jt_mc := by
  have h1 : jt_ms[y]? = jt_mc[y]? := by unfold jt_ms; rw [List.getElem?_append_left hy]
  have h2 : jt_m y = jt_mc[y] := by unfold jt_m; rw [List.getD_eq_getElem?_getD, h1, List.getElem?_eq_getElem hy]; rfl
  rw [h2]
  exact List.getElem_mem hy
def jt_mok (q : jt_M) : Bool := decide (q.1.cls = jt_cn q.2.2.2.2.1) && plainFor q.1 && decide (q.1.cls ≠ "java/lang/invoke/MethodHandle") && decide (q.1.cls ≠ "java/lang/invoke/VarHandle") && decide ((parseMethodDescriptor q.1.desc).map (fun d => d.parameters.length) = some q.2.2.2.2.2.1) && decide (q.2.2.1 ≤ 13) && (decide (q.2.2.2.2.2.2 ≠ 2) || (decide (q.1.name = "<init>") && decide (q.2.2.2.1 = none)))
set_option maxRecDepth 100000 in
theorem jt_mc_ok : jt_mc.all jt_mok = true := by decide +kernel
set_option maxRecDepth 100000 in
theorem jt_ml_lt : ∀ q ∈ jt_ml, q.2.2 < jt_mc.length := by decide +kernel
set_option maxRecDepth 100000 in
theorem jt_mn_lt : ∀ q ∈ jt_mn, q.2.2.1 < jt_mc.length := by decide +kernel
theorem jt_mfacts {y : Nat} (hy : y < jt_mc.length) : (jt_m y).1.cls = jt_cn (jt_own y) ∧ plainFor (jt_m y).1 = true ∧ ((jt_m y).1.cls ≠ "java/lang/invoke/MethodHandle" ∧ (jt_m y).1.cls ≠ "java/lang/invoke/VarHandle" ∧ (parseMethodDescriptor (jt_m y).1.desc).map (fun d => d.parameters.length) = some (jt_np y)) ∧ jt_maxL y ≤ 13 ∧ (jt_kd y = 2 → (jt_m y).1.name = "<init>" ∧ jt_ret y = none) := by
  have h := List.all_eq_true.mp jt_mc_ok _ (jt_m_in hy)
  simp only [jt_mok, Bool.and_eq_true, Bool.or_eq_true, decide_eq_true_eq] at h
  obtain ⟨⟨⟨⟨⟨⟨h1, h2⟩, h3⟩, h4⟩, h5⟩, h6⟩, h7⟩ := h
  refine ⟨h1, h2, ⟨h3, h4, h5⟩, h6, fun hk => ?_⟩
  rcases h7 with h7 | h7
  · exact absurd hk h7
  · exact h7
theorem jt_mwords {y : Nat} (hy : y < jt_mc.length) : Cond.code (jt_m y).1 (jt_code y) (jt_maxL y) (jt_ret y) ∈ jt_gd ∧ Cond.initialized (jt_m y).1.cls ∈ jt_gd ∧ (jt_kd y = 1 → Cond.static (jt_m y).1 ∈ jt_gd) ∧ (jt_kd y = 2 → Cond.instanceMethod (jt_m y).1 ∈ jt_gd) ∧ (jt_kd y = 0 → Cond.instanceMethod (jt_m y).1 ∈ jt_gd ∧ Cond.selects (jt_m y).1.cls (jt_m y).1 (jt_m y).1 ∈ jt_gd) := by
  have h := jt_mc_in _ (jt_m_in hy)
  refine ⟨jt_gd_of (h _ List.mem_cons_self) rfl, jt_gd_of (h _ (List.mem_cons_of_mem _ List.mem_cons_self)) rfl, fun hk => jt_gd_of (h _ ?_) rfl, fun hk => jt_gd_of (h _ ?_) rfl, fun hk => ⟨jt_gd_of (h _ ?_) rfl, jt_gd_of (h _ ?_) rfl⟩⟩
  · have hk : (jt_m y).2.2.2.2.2.2 = 1 := hk
    unfold jt_wm; rw [if_pos hk]; simp
  · have hk : (jt_m y).2.2.2.2.2.2 = 2 := hk
    unfold jt_wm; rw [if_neg (by omega), if_pos hk]; simp
  · have hk : (jt_m y).2.2.2.2.2.2 = 0 := hk
    unfold jt_wm; rw [if_neg (by omega), if_neg (by omega)]; simp
  · have hk : (jt_m y).2.2.2.2.2.2 = 0 := hk
    unfold jt_wm; rw [if_neg (by omega), if_neg (by omega)]; simp
theorem jt_ws_good {y : Nat} (hy : y < jt_mc.length) : GoodIn jt_gd (jt_ws y) := by
  intro w hw
  rcases List.mem_cons.mp hw with rfl | hw
  · exact ⟨(jt_mwords hy).1, Or.inl rfl⟩
  · exact ⟨hw, good_of_word (List.mem_filter.mp hw).2⟩
theorem jt_inv_ok {o i y : Nat} (h : jt_inv o i = some y) : y < jt_mc.length ∧ (((o, i, y) ∈ jt_ml) ∨ ∃ z, (o, i, y, z) ∈ jt_mn) := by
  unfold jt_inv at h
  split at h
  · rename_i y' hy
    cases h
    have h1 := jt_f3_mem hy
    exact ⟨jt_ml_lt _ h1, Or.inl h1⟩
  · cases hf : jt_f4 jt_mn o i with
    | none => rw [hf] at h; cases h
    | some q =>
      rw [hf] at h
      cases h
      have h1 := jt_f4_mem hf
      exact ⟨jt_mn_lt _ h1, Or.inr ⟨q.2, h1⟩⟩
section JC
variable {p : Program} {l : Launch} {e : Env} {R : Room} {s : State} {m : MethodId} {args : Array Value} {below : List Frame} {meth : Method} {c : Code} {Q : State → Prop} {D : va_G} {dA : Nat → ClassId} {A : Nat → Prop} {z0 y0 M n pc d : Nat} {ls : jv_L} {st : List Value} {h : jv_H} {call : jv_F} {o : jv_S ⊕ jv_Z}
/-- behind a call -/
theorem jv_back {H : Heap} {locs : List Loc} {cells slots : Nat} {la : Array Slot} {h' : jv_H} {r : Option Value} {as rest : List Value} (hG : jv_G h h') (hW : jv_W s D dA A z0 y0 h H locs cells slots) (hL : jv_Lr ls la) (hn : ls.length = jt_maxL M)
    (hr : va_Run p l e R s m args below meth c H locs cells slots (h'.2.1 - h.2.1) (h'.2.2 - h.2.2) (F0 m pc la st) rest (jv_Q D dA h r h' as.toArray) (jv_A h)) (w : jv_Wp p l e R s m args below meth c D dA A z0 y0 M Q (pc + 3) ls (r.toList ++ rest) h') : W p l e R s m args below meth c H locs cells slots Q (F0 m pc la st) := by
  intro T hT X
  obtain ⟨v, st₀, t, T', L, h0, X', hL', e1, e2, ⟨hv, hR, hF⟩, stp⟩ := hr T hT X
  cases hv
  obtain ⟨w1, w2, w3, w4, w5, w6⟩ := hW
  have hA : ∀ q, jv_A h q → A q := fun q hq => by
    rcases hq with ⟨x, f1, f2⟩ | hq
    · exact w3 q x f1 f2
    · exact w6 q (by omega)
  unfold va_F at hF
  rw [h0] at hF
  have hal : t.vm.Alike s.vm := by rw [← e2]; exact X'.warmed.alike.symm
  obtain ⟨t2, a1, b1⟩ := w T'.heap (locs ++ L) (cells + (h'.2.1 - h.2.1)) (slots + (h'.2.2 - h.2.2)) la ⟨by rw [e1]; exact hR.moved hal, ⟨by have := w2.1; rw [e1]; omega, fun q q1 q2 => by rw [e1, hF.2 q (Nat.lt_of_lt_of_le q1 w2.1) (fun z => q2 (hA q z))]; exact w2.2.1 q q1 q2, fun q hq => by
      rcases List.mem_append.mp hq with h | h
      · exact w2.2.2 q h
      · exact hA _ (hL' q h)⟩, fun a x f1 f2 => by
      rcases hG.2.2 a x f1 f2 with ⟨y, g1, g2⟩ | g
      · exact w3 a y g1 g2
      · exact w6 a (by omega), by have := hG.1; omega, by have := hG.2.1; omega, w6⟩ hL hn T' rfl X'
  exact ⟨t2, stp t2 a1, b1⟩
theorem jv_blind {as : List Value} : FrameBlind (va_Pc as (fun U => jv_R D dA U h U.heap ∧ jv_K D dA U)) := by
  intro a U g mk q
  obtain ⟨q1, q2, q3⟩ := q
  exact ⟨q1, q2.moved (Vm.Alike.refl U.vm), q3.same rfl⟩
theorem jv_pre {H : Heap} {as : List Value} (hR : jv_R D dA s h H) (hK : jv_K D dA s) : ∀ U : State, U.heap = H → s.WarmedH U.vm → va_Pc as (fun U => jv_R D dA U h U.heap ∧ jv_K D dA U) as.toArray U := fun U hU hW => ⟨rfl, by rw [hU]; exact hR.moved hW.alike, hK.warm hW⟩
theorem jv_inv_inv {y : Nat} {as rest : List Value} (hs : jv_inv call y n pc ls as rest h = some o) : n = 3 ∧ (rest.map fun v => v.category).sum ≤ 8 ∧ ∃ r h', call y as h = some (r, h') ∧ o = .inl (pc + 3, ls, r.toList ++ rest, h') := by
  unfold jv_inv at hs
  split at hs
  · rename_i hc
    split at hs
    · rename_i r h' hq
      cases hs
      exact ⟨hc.1, of_decide_eq_true hc.2, r, h', hq, rfl⟩
    · cases hs
  · cases hs
theorem jv_stk {st : List Value} {k : Nat} (hk : k ≤ st.length) : ((st.take k).reverse).reverse ++ st.drop k = st := by rw [List.reverse_reverse, List.take_append_drop]
theorem jv_stl2 {st : List Value} {k : Nat} (hk : k ≤ st.length) : ((st.take k).reverse).length = k := by rw [List.length_reverse, List.length_take]; omega
theorem js_invokestatic {k : Nat} (X : jv_X p s m args meth c D dA M) (hcall : ∀ y as h r h', y < jt_mc.length → call y as h = some (r, h') → jv_G h h' ∧ jv_Met l D dA d y as h r h') (hf : d + 1 ≤ R.frames) (hlo : 32 * (d + 1) ≤ R.locals)
    (hd : decode (jt_code M) pc = .ok (.invokestatic k, n)) (hs : jv_ins call M (.invokestatic k) n pc ls st h = some o) : jv_Ok p l e R s m args below meth c D dA A z0 y0 M Q pc ls st h o := by
  unfold jv_ins at hs
  simp only at hs
  split at hs
  · rename_i y hy
    split at hs
    · rename_i hc
      obtain ⟨hkd, hnp⟩ := hc
      obtain ⟨hn, hwd, r, h', hq, rfl⟩ := jv_inv_inv hs
      subst hn
      obtain ⟨hlt, hlk⟩ := jt_inv_ok hy
      obtain ⟨hG, hM⟩ := hcall _ _ _ _ _ hlt hq
      refine ⟨hG, rfl, fun hr1 hr2 w H locs cells slots la hW hL hn => ?_⟩
      obtain ⟨hx, hb, hml, hown, hts, hK, hin⟩ := X
      obtain ⟨f1, f2, f3, f4, f5⟩ := jt_mfacts hlt
      obtain ⟨g1, g2, g3, g4, g5⟩ := jt_mwords hlt
      have hroom : cells + (h'.2.1 - h.2.1) ≤ R.cells ∧ slots + (h'.2.2 - h.2.2) ≤ R.slots := by
        obtain ⟨-, -, -, w4, w5, -⟩ := hW
        have q1 := hG.1
        have q2 := hG.2.1
        try simp only at hr1 hr2
        omega
      have hR : (jv_rm d h h').frames + 1 ≤ R.frames ∧ 8 + (jt_maxL y + 11) + (jv_rm d h h').locals ≤ R.locals := ⟨hf, by show 8 + (jt_maxL y + 11) + 32 * d ≤ R.locals; omega⟩
      rcases hlk with hlk | ⟨z, hlk⟩
      · have hlink := hts _ (jt_gd_of (jt_ml_in _ hlk) rfl)
        exact jv_back hG hW hL hn (va_runS (As := (st.take (jt_np y)).reverse) ⟨hx, hb, hml, hown, hts⟩ hM ⟨callB_of (jt_np y) hts (jt_ws_good hlt) rfl rfl rfl (hts _ g2) hlink f3 hR, hts _ (g3 hkd)⟩ ⟨jv_blind, jv_pre hW.1 hK⟩ rfl (jv_stl2 hnp) (hL.1.trans hn) (jv_stk hnp).symm (by show 2 * 0 + _ ≤ 8; omega) hd hroom) w
      · have hlink := hK.2.2.2 _ hlk
        exact jv_back hG hW hL hn (va_runSN (As := (st.take (jt_np y)).reverse) ⟨hx, hb, hml, hown, hts⟩ hM ⟨va_cnB (jt_np y) hts (jt_ws_good hlt) rfl rfl rfl hlink (hts _ g2) f3 hR, hts _ (g3 hkd), trivial⟩ ⟨jv_blind, jv_pre hW.1 hK⟩ rfl (jv_stl2 hnp) (hL.1.trans hn) (jv_stk hnp).symm (by show 2 * 0 + _ ≤ 8; omega) hd hroom) w
    · cases hs
  · cases hs
theorem js_invokevirtual {k : Nat} (X : jv_X p s m args meth c D dA M) (hcall : ∀ y as h r h', y < jt_mc.length → call y as h = some (r, h') → jv_G h h' ∧ jv_Met l D dA d y as h r h') (hf : d + 1 ≤ R.frames) (hlo : 32 * (d + 1) ≤ R.locals)
    (hd : decode (jt_code M) pc = .ok (.invokevirtual k, n)) (hs : jv_ins call M (.invokevirtual k) n pc ls st h = some o) : jv_Ok p l e R s m args below meth c D dA A z0 y0 M Q pc ls st h o := by
  unfold jv_ins at hs
  simp only at hs
  split at hs
  · rename_i y hy
    split at hs
    · rename_i b rest hst
      split at hs
      · rename_i hc
        obtain ⟨hkd, hcl, hnp⟩ := hc
        obtain ⟨hn, hwd, r, h', hq, rfl⟩ := jv_inv_inv hs
        subst hn
        obtain ⟨hlt, hlk⟩ := jt_inv_ok hy
        obtain ⟨hG, hM⟩ := hcall _ _ _ _ _ hlt hq
        refine ⟨hG, rfl, fun hr1 hr2 w H locs cells slots la hW hL hn => ?_⟩
        obtain ⟨hx, hb, hml, hown, hts, hK, hin⟩ := X
        obtain ⟨f1, f2, f3, f4, f5⟩ := jt_mfacts hlt
        obtain ⟨g1, g2, g3, g4, g5⟩ := jt_mwords hlt
        have hroom : cells + (h'.2.1 - h.2.1) ≤ R.cells ∧ slots + (h'.2.2 - h.2.2) ≤ R.slots := by
          obtain ⟨-, -, -, w4, w5, -⟩ := hW
          have q1 := hG.1
          have q2 := hG.2.1
          try simp only at hr1 hr2
          omega
        have hR : (jv_rm d h h').frames + 1 ≤ R.frames ∧ 8 + (jt_maxL y + 11) + (jv_rm d h h').locals ≤ R.locals := ⟨hf, by show 8 + (jt_maxL y + 11) + 32 * d ≤ R.locals; omega⟩
        have hrecv : ∃ cellB : Cell, H[b]? = some cellB ∧ cellB.vm.isStatics = false ∧ s.vm.findClass (jt_m y).1.cls = some cellB.cls := by
          unfold jv_cl at hcl
          split at hcl
          · rename_i ci fs hxb
            cases hcl
            obtain ⟨r', hr', -, cell, q1, q2, q3, -⟩ := hW.1.2 b _ hxb
            refine ⟨cell, q1, by rw [q3]; rfl, ?_⟩
            rw [f1, jt_cl_cn _ r' hr', q2]
            exact (hK.1 _ r' hr').2.1
          · cases hcl
        have hstk : st = ((st.take (jt_np y)).reverse).reverse ++ Value.ref b :: rest := by rw [← hst]; exact (jv_stk hnp).symm
        rcases hlk with hlk | ⟨z, hlk⟩
        · have hlink := hts _ (jt_gd_of (jt_ml_in _ hlk) rfl)
          exact jv_back hG hW hL hn (va_runV (C := (jt_m y).1.cls) (As := (st.take (jt_np y)).reverse) ⟨hx, hb, hml, hown, hts⟩ hM ⟨callB_of (jt_np y) hts (jt_ws_good hlt) rfl rfl rfl (hts _ g2) hlink f3 hR, hts _ (g5 hkd).1, hts _ (g5 hkd).2⟩ ⟨jv_blind, hrecv, jv_pre hW.1 hK⟩ rfl (jv_stl2 hnp) (hL.1.trans hn) hstk (by show 2 * 0 + _ ≤ 8; omega) hd hroom) w
        · have hlink := hK.2.2.2 _ hlk
          exact jv_back hG hW hL hn (va_runVN (C := (jt_m y).1.cls) (As := (st.take (jt_np y)).reverse) ⟨hx, hb, hml, hown, hts⟩ hM ⟨va_cnB (jt_np y) hts (jt_ws_good hlt) rfl rfl rfl hlink (hts _ g2) f3 hR, hts _ (g5 hkd).1, hts _ (g5 hkd).2⟩ ⟨jv_blind, hrecv, jv_pre hW.1 hK⟩ rfl (jv_stl2 hnp) (hL.1.trans hn) hstk (by show 2 * 0 + _ ≤ 8; omega) hd hroom) w
      · cases hs
    · cases hs
  · cases hs
theorem js_invokespecial {k : Nat} (X : jv_X p s m args meth c D dA M) (hcall : ∀ y as h r h', y < jt_mc.length → call y as h = some (r, h') → jv_G h h' ∧ jv_Met l D dA d y as h r h') (hf : d + 1 ≤ R.frames) (hlo : 32 * (d + 1) ≤ R.locals)
    (hd : decode (jt_code M) pc = .ok (.invokespecial k, n)) (hs : jv_ins call M (.invokespecial k) n pc ls st h = some o) : jv_Ok p l e R s m args below meth c D dA A z0 y0 M Q pc ls st h o := by
  unfold jv_ins at hs
  simp only at hs
  split at hs
  · rename_i hob
    split at hs
    · rename_i a rest
      split at hs
      · rename_i hwd
        obtain ⟨hn, hs⟩ := jv_len_inv hs
        subst hn
        cases hs
        refine ⟨jv_G.rf, rfl, fun hr1 hr2 w H locs cells slots la hW hL hn => ?_⟩
        obtain ⟨hx, hb, hml, hown, hts, hK, hin⟩ := X
        have hwd := of_decide_eq_true hwd
        have hmem : (jt_own M, k) ∈ jt_ob := by simpa using hob
        have hlink := hts _ (jt_gd_of (jt_ob_in _ hmem) rfl)
        exact W.objInit hx hb hown hlink (hts _ (jt_gd_of jt_obi rfl)) (hts _ (jt_gd_of jt_obc rfl)) rfl (by rw [hml]; exact hL.1.trans hn) rfl hd (by omega) (by show 2 * 0 + _ + 12 ≤ R.locals; omega) (w H locs cells slots la hW hL hn)
      · cases hs
    · cases hs
  · split at hs
    · rename_i y hy
      split at hs
      · rename_i b rest hst
        split at hs
        · rename_i hc
          obtain ⟨hkd, hnp⟩ := hc
          obtain ⟨hn, hwd, r, h', hq, rfl⟩ := jv_inv_inv hs
          subst hn
          obtain ⟨hlt, hlk⟩ := jt_inv_ok hy
          obtain ⟨hG, hM⟩ := hcall _ _ _ _ _ hlt hq
          refine ⟨hG, rfl, fun hr1 hr2 w H locs cells slots la hW hL hn => ?_⟩
          obtain ⟨hx, hb, hml, hown, hts, hK, hin⟩ := X
          obtain ⟨f1, f2, f3, f4, f5⟩ := jt_mfacts hlt
          obtain ⟨g1, g2, g3, g4, g5⟩ := jt_mwords hlt
          have hroom : cells + (h'.2.1 - h.2.1) ≤ R.cells ∧ slots + (h'.2.2 - h.2.2) ≤ R.slots := by
            obtain ⟨-, -, -, w4, w5, -⟩ := hW
            have q1 := hG.1
            have q2 := hG.2.1
            try simp only at hr1 hr2
            omega
          have hR : (jv_rm d h h').frames + 1 ≤ R.frames ∧ 8 + (jt_maxL y + 11) + (jv_rm d h h').locals ≤ R.locals := ⟨hf, by show 8 + (jt_maxL y + 11) + 32 * d ≤ R.locals; omega⟩
          have hstk : st = ((st.take (jt_np y)).reverse).reverse ++ Value.ref b :: rest := by rw [← hst]; exact (jv_stk hnp).symm
          have hwse : jt_ws y = Cond.code (jt_m y).1 (jt_code y) (jt_maxL y) none :: jt_gd := by unfold jt_ws; rw [(f5 hkd).2]
          rcases hlk with hlk | ⟨z, hlk⟩
          · have hlink := hts _ (jt_gd_of (jt_ml_in _ hlk) rfl)
            exact jv_back hG hW hL hn (va_runI (bytes := jt_code y) (maxL := jt_maxL y) (As := (st.take (jt_np y)).reverse) ⟨hx, hb, hml, hown, hts⟩ hM ⟨callB_of (jt_np y) hts (jt_ws_good hlt) hwse rfl rfl (hts _ g2) hlink f3 hR, (f5 hkd).1, hts _ (g4 hkd)⟩ ⟨jv_blind, jv_pre hW.1 hK⟩ rfl (jv_stl2 hnp) (hL.1.trans hn) hstk (by show 2 * 0 + _ ≤ 8; omega) hd hroom) w
          · have hlink := hK.2.2.2 _ hlk
            exact jv_back hG hW hL hn (va_runIN (bytes := jt_code y) (maxL := jt_maxL y) (As := (st.take (jt_np y)).reverse) ⟨hx, hb, hml, hown, hts⟩ hM ⟨va_cnB (jt_np y) hts (jt_ws_good hlt) hwse rfl rfl hlink (hts _ g2) f3 hR, (f5 hkd).1, hts _ (g4 hkd)⟩ ⟨jv_blind, jv_pre hW.1 hK⟩ rfl (jv_stl2 hnp) (hL.1.trans hn) hstk (by show 2 * 0 + _ ≤ 8; omega) hd hroom) w
        · cases hs
      · cases hs
    · cases hs
end JC
