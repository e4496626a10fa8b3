/-! the instructions that use the heap -/
theorem jt_f4_mem {l : List (Nat × Nat × Nat × Nat)} {o i : Nat} {q : Nat × Nat} (h : jt_f4 l o i = some q) : (o, i, q) ∈ l := by
  unfold jt_f4 at h
  cases hf : l.find? (fun q => q.1 == o && q.2.1 == i) with
  | none => rw [hf] at h; cases h
  | some x =>
    rw [hf] at h
    have h1 := List.mem_of_find?_eq_some hf
    have h2 := List.find?_some hf
    simp only [Bool.and_eq_true, beq_iff_eq] at h2
    obtain ⟨a, b, y⟩ := x
    simp only [Option.map_some, Option.some.injEq] at h
    simp only at h2
    rw [← h2.1, ← h2.2, ← h]
    exact h1
theorem jt_f3_mem {α : Type} {l : List (Nat × Nat × α)} {o i : Nat} {q : α} (h : jt_f3 l o i = some q) : (o, i, q) ∈ l := by
  unfold jt_f3 at h
  cases hf : l.find? (fun q => q.1 == o && q.2.1 == i) with
  | none => rw [hf] at h; cases h
  | some x =>
    rw [hf] at h
    have h1 := List.mem_of_find?_eq_some hf
    have h2 := List.find?_some hf
    simp only [Bool.and_eq_true, beq_iff_eq] at h2
    obtain ⟨a, b, y⟩ := x
    simp only [Option.map_some, Option.some.injEq] at h
    simp only at h2
    rw [← h2.1, ← h2.2, ← h]
    exact h1
theorem jt_lay_good {C : String} {T : u_T} {N : Nat} {w : Cond} (h : w ∈ u_ws C T N) : goodWord w = true := by
  unfold u_ws at h
  obtain ⟨k, -, e⟩ := List.mem_map.mp h
  subst e
  unfold u_lay
  split <;> rfl
theorem jt_ws_in {ci : Nat} {r : vw_C} (h : jt_cl[ci]? = some r) : ∀ w ∈ u_ws r.1 r.2.1 r.2.2, w ∈ jt_gd := fun w hw =>
  jt_gd_of (jt_cl_in r (List.mem_of_getElem? h) w (List.mem_cons_of_mem _ (List.mem_cons_of_mem _ hw))) (jt_lay_good hw)
theorem jv_gf_inv {h : jv_H} {a ci k : Nat} {v : Value} (e : jv_gf h a ci k = some v) : ∃ fs, h.1 a = some (.inl (ci, fs)) ∧ fs[k]? = some v := by
  unfold jv_gf at e
  split at e
  · rename_i x fs hx
    split at e
    · rename_i hc
      subst hc
      exact ⟨fs, hx, e⟩
    · cases e
  · cases e
theorem jv_pf_inv {h h' : jv_H} {a ci k : Nat} {v : Value} (e : jv_pf h a ci k v = some h') : ∃ fs, h.1 a = some (.inl (ci, fs)) ∧ k < fs.length ∧ narrow (jt_fty ci k) v = v ∧ fits (jt_fty ci k) v = true ∧ h' = (jv_up h.1 a (.inl (ci, fs.set k v)), h.2) := by
  unfold jv_pf at e
  split at e
  · rename_i x fs hx
    split at e
    · rename_i hc
      obtain ⟨rfl, h1, h2, h3⟩ := hc
      cases e
      exact ⟨fs, hx, h1, h2, h3, rfl⟩
    · cases e
  · cases e
theorem jv_al_inv {h : jv_H} {a : Nat} {ty : FieldType} {i : Int32} {v : Value} (e : jv_al h a ty i = some v) : ∃ k n f, h.1 a = some (.inr (k, n, f)) ∧ jt_at[k]? = some ty ∧ ¬ (i < 0 ∨ n ≤ i.toNatClampNeg) ∧ v = f i.toNatClampNeg := by
  unfold jv_al at e
  split at e
  · rename_i k n f hx
    split at e
    · rename_i hc
      cases e
      exact ⟨k, n, f, hx, hc.1, hc.2, rfl⟩
    · cases e
  · cases e
theorem jv_as_inv {h h' : jv_H} {a : Nat} {ty : FieldType} {i : Int32} {v : Value} (e : jv_as h a ty i v = some h') : ∃ k n f, h.1 a = some (.inr (k, n, f)) ∧ ¬ k = jt_scr ∧ jt_at[k]? = some ty ∧ ¬ (i < 0 ∨ n ≤ i.toNatClampNeg) ∧ h' = (jv_up h.1 a (.inr (k, n, updV f i.toNatClampNeg v)), h.2) := by
  unfold jv_as at e
  split at e
  · rename_i k n f hx
    split at e
    · rename_i hc
      cases e
      exact ⟨k, n, f, hx, hc.1, hc.2.1, hc.2.2, rfl⟩
    · cases e
  · cases e
section JY
variable {p : Program} {l : Launch} {e : Env} {R : Room} {s : State} {m : MethodId} {args : Array Value} {below : List Frame} {meth : Method} {c : Code} {Q : State → Prop} {D : va_G} {dA : Nat → ClassId} {A : Nat → Prop} {z0 y0 M n pc : Nat} {ls : jv_L} {st : List Value} {h : jv_H} {call : jv_F} {o : jv_S ⊕ jv_Z}
theorem jv_W.put {H H1 : Heap} {locs : List Loc} {cells slots a k : Nat} {x y : jv_C} (hW : jv_W s D dA A z0 y0 h H locs cells slots) (hx : h.1 a = some x) (hs : jv_scr x = false) (hs2 : jv_scr y = false) (z : H1.size = H.size) (oq : ∀ q : Nat, q ≠ a → H1[q]? = H[q]?) (hy : jv_at D dA s a y H1) : jv_W s D dA A z0 y0 (jv_up h.1 a y, h.2) H1 (locs ++ [⟨a, k⟩]) cells slots := by
  obtain ⟨h1, h2, h3, h4, h5, h6⟩ := hW
  refine ⟨h1.put z oq hy, h2.put z oq (h3 a x hx hs), fun q w e f => ?_, h4, h5, h6⟩
  by_cases hq : q = a
  · subst hq
    exact h3 q x hx hs
  · simp only [jv_up, if_neg hq] at e
    exact h3 q w e f
theorem jv_W.push {H H1 : Heap} {locs : List Loc} {cells slots k : Nat} {y : jv_C} (hW : jv_W s D dA A z0 y0 h H locs cells slots) (z : H1.size = h.2.1 + 1) (oq : ∀ q : Nat, q < h.2.1 → H1[q]? = H[q]?) (hy : jv_at D dA s h.2.1 y H1) : jv_W s D dA A z0 y0 (jv_up h.1 h.2.1 y, h.2.1 + 1, h.2.2 + k) H1 locs (cells + 1) (slots + k) := by
  obtain ⟨h1, h2, h3, h4, h5, h6⟩ := hW
  have hz : H.size = h.2.1 := h1.1
  refine ⟨h1.push z oq hy, ⟨by have := h2.1; omega, fun q e1 e2 => (oq q (by have := h2.1; omega)).trans (h2.2.1 q e1 e2), h2.2.2⟩, fun q w e f => ?_, by simp only; omega, by simp only; omega, h6⟩
  by_cases hq : q = h.2.1
  · exact h6 q (by omega)
  · simp only [jv_up, if_neg hq] at e
    exact h3 q w e f
theorem js_getfield {k : Nat} (X : jv_X p s m args meth c D dA M) (hd : decode (jt_code M) pc = .ok (.getfield k, n)) (hs : jv_ins call M (.getfield k) n pc ls st h = some o) : jv_Ok p l e R s m args below meth c D dA A z0 y0 M Q pc ls st h o := by
  unfold jv_ins at hs
  simp only at hs
  split at hs
  · rename_i a rest ci f hf
    split at hs
    · rename_i v hv
      obtain ⟨hn, hs⟩ := jv_len_inv hs
      subst hn
      obtain ⟨fs, e1, e2⟩ := jv_gf_inv hv
      cases hs
      refine ⟨jv_G.rf, rfl, fun _ _ w H locs cells slots la hW hL hn => ?_⟩
      obtain ⟨r, hr, hlen, hob⟩ := hW.1.2 a _ e1
      obtain ⟨hx, hb, hml, hown, hts, hK, -⟩ := X
      have hw := jt_fl_in _ (jt_f4_mem hf)
      have hk : f < r.2.2 := by rw [← hlen]; exact (List.getElem?_eq_some_iff.mp e2).1
      simp only [jt_wfl, hr] at hw
      have hP : va_P D jt_cl [(a, .inr (ci, fs))] H := fun k q hk => by
        have hz : k < 1 := (List.getElem?_eq_some_iff.mp hk).1
        rw [show k = 0 by omega] at hk
        cases hk
        exact ⟨r, hr, hob⟩
      exact va_get (D := D) (ci := ci) (v := v) (C := r.1) (T := r.2.1) (N := r.2.2) (tys := []) hx hb hts (jt_ws_in hr) hown ⟨hK.1, fun k q h => by simp at h⟩ hP 0 rfl hr f hk (hts _ (jt_gd_of hw rfl)) (fun _ h9 => h9) e2 hd (w H locs cells slots la hW hL hn)
    · cases hs
  · cases hs
theorem js_putfield {k : Nat} (X : jv_X p s m args meth c D dA M) (hd : decode (jt_code M) pc = .ok (.putfield k, n)) (hs : jv_ins call M (.putfield k) n pc ls st h = some o) : jv_Ok p l e R s m args below meth c D dA A z0 y0 M Q pc ls st h o := by
  unfold jv_ins at hs
  simp only at hs
  split at hs
  · rename_i v a rest ci f hf
    split at hs
    · rename_i hfin
      split at hs
      · rename_i h' hv
        obtain ⟨hn, hs⟩ := jv_len_inv hs
        subst hn
        obtain ⟨fs, e1, hl, hnar, hfit, rfl⟩ := jv_pf_inv hv
        cases hs
        refine ⟨jv_G.up e1 rfl, rfl, fun _ _ w H locs cells slots la hW hL hn => ?_⟩
        obtain ⟨r, hr, hlen, hob⟩ := hW.1.2 a _ e1
        obtain ⟨hx, hb, hml, hown, hts, hK, hin⟩ := X
        have hw := jt_fl_in _ (jt_f4_mem hf)
        have hk : f < r.2.2 := by rw [← hlen]; exact hl
        simp only [jt_wfl, hr] at hw
        have hlink := hts _ (jt_gd_of hw rfl)
        obtain ⟨hty, hnm⟩ := jt_cl_ty ci r hr
        have hap := va_apart (own := jt_cn (jt_own M)) (D := D) (cl := jt_cl) (ci := ci) (C := r.1) (T := r.2.1) (N := r.2.2) (tys := []) hts (jt_ws_in hr) _ hty hnm ⟨hK.1, fun k q h => by simp at h⟩ hr
        obtain ⟨cell, q1, q2, q3, q4⟩ := hob
        obtain ⟨hS, hfc, kC, hkC, hkind⟩ := hK.1 ci _ hr
        obtain ⟨cf, kf, fi, fd, hi, hsl⟩ := hS f hk
        have hst := (u_facts hfc hkC (u_lays hts (jt_ws_in hr) hk) hi).1
        have hlay := hts _ (jt_ws_in hr _ (u_in_lay hk))
        have fin : ∀ H1 : Heap, H1[a]? = some (cell.setSlot fd.slot v) → H1.size = H.size → (∀ q, q ≠ a → H1[q]? = H[q]?) → W p l e R s m args below meth c H1 (locs ++ [⟨a, fd.slot⟩]) cells slots Q (F0 m (pc + 3) la rest) := fun H1 e3 z oq => by
          rw [hsl] at e3 ⊢
          exact w H1 _ cells slots la (hW.put e1 rfl rfl z oq ⟨r, hr, by rw [List.length_set]; exact hlen, t_OB.to (V := updV (vp_V fs) f v) ⟨_, e3, q2, q3, t_set q4 hap hk v⟩ (fun j _ => vp_updV_set hl v j)⟩) hL hn
        cases hff : (r.2.1 f).2.2.2 with
        | false =>
          unfold u_lay at hlay
          rw [if_neg (by rw [hff]; decide)] at hlay
          have h6 := u_store hfc hkC hkind hlay hi (hty f hk) hnar hfit
          exact W.putK hx hb (f := fd) ⟨hown, hlink, ⟨_, _, _, hi⟩, hst⟩ (by rw [q2]; exact h6) q1 q3 (by rw [hsl]; exact k2_hasslot (q4 f hk)) rfl rfl hd fin
        | true =>
          have hfin2 : jt_kd M = 2 ∧ jt_own M = ci := by
            rcases hfin with h9 | h9
            · simp only [jt_ffin, hr, hff] at h9
              cases h9
            · exact h9
          unfold u_lay at hlay
          rw [if_pos hff] at hlay
          have hdecl : (r.2.1 f).1 = jt_cn (jt_own M) := by rw [hfin2.2]; exact jt_cl_decl ci r hr f hk
          have hcf : m.cls = cf := by
            obtain ⟨_, _, c', _, _, _, -, -, hf', -, -, -, hown2, -⟩ := Cond.laysFinal_spec hlay
            have e5 : c' = cf := by have := hi.symm.trans hf'; simp at this; exact this.1.symm
            rw [hdecl] at hown2
            rw [← e5]; exact Option.some.inj (hown.symm.trans hown2)
          have h6 := u_fits hfc hkC hkind (Or.inr hlay) hi (hty f hk) hnar hfit
          exact W.putFinK hx hb hown hlink hi hst hcf (hin hfin2.1) (by rw [q2]; exact h6) q1 q3 (by rw [hsl]; exact k2_hasslot (q4 f hk)) rfl rfl hd fin
      · cases hs
    · cases hs
  · cases hs
theorem js_new {k : Nat} (X : jv_X p s m args meth c D dA M) (hd : decode (jt_code M) pc = .ok (.new k, n)) (hs : jv_ins call M (.new k) n pc ls st h = some o) : jv_Ok p l e R s m args below meth c D dA A z0 y0 M Q pc ls st h o := by
  unfold jv_ins at hs
  simp only at hs
  split at hs
  · rename_i ci hf
    split at hs
    · rename_i hci
      obtain ⟨hn, hs⟩ := jv_len_inv hs
      subst hn
      cases hs
      refine ⟨jv_G.push, rfl, fun hc1 hc2 w H locs cells slots la hW hL hn => ?_⟩
      obtain ⟨hx, hb, hml, hown, hts, hK, hin⟩ := X
      obtain ⟨r, hr⟩ : ∃ r, jt_cl[ci]? = some r := ⟨_, List.getElem?_eq_getElem hci⟩
      have hw := jt_nl_in _ (jt_f3_mem hf)
      simp only [jt_wnl, jt_cl_cn ci r hr] at hw
      have hcl := jt_cl_in r (List.mem_of_getElem? hr)
      have hlen : (jt_dfl ci).length = r.2.2 := by simp [jt_dfl, hr]
      have hKn := hK.1 ci r hr
      have hcc : cells + 1 ≤ R.cells := by
        have := hW.2.2.2.1
        simp only [jv_new] at hc1
        omega
      have hss : slots + r.2.2 ≤ R.slots := by
        have := hW.2.2.2.2.1
        simp only [jv_new, hlen] at hc2
        omega
      refine W.newcK hx hb hown (hts _ (jt_gd_of hw rfl)) (hts _ (jt_gd_of (hcl _ List.mem_cons_self) rfl)) (hts _ (jt_gd_of (hcl _ (List.mem_cons_of_mem _ List.mem_cons_self)) rfl)) rfl hd hcc hss hKn.2.1 hW.1.1 fun H1 kC hkC e1 z1 o1 => ?_
      have hW1 := hW.push (k := r.2.2) (y := .inl (ci, jt_dfl ci)) z1 o1 ⟨r, hr, hlen, (u_born _ hts (jt_ws_in hr) hKn hkC e1 (jt_cl_ty ci r hr).1).to (fun j hj => by simp [vp_V, jt_dfl, hr, hj, jt_fty])⟩
      rw [← hlen] at hW1 ⊢
      exact w H1 locs _ _ la hW1 hL hn
    · cases hs
  · cases hs
theorem jt_idx {t : FieldType} {k : Nat} (h : jt_at.idxOf? t = some k) : jt_at[k]? = some t := by
  obtain ⟨h1, h2, -⟩ := List.idxOf?_eq_some_iff.mp h
  rw [List.getElem?_eq_getElem h1]
  first | rw [h2] | rw [eq_of_beq h2] | simpa using h2
theorem jt_ac_of {k : Nat} {t : FieldType} (hat : jt_at[k]? = some t) (hp : jt_prim t = true) {args : Array Value} {s : State} (hts : ∀ w ∈ jt_gd, w.before args s = true) : (Cond.arrayClass t).before args s = true := hts _ (jt_gd_of (jt_ac_in k t hat hp) rfl)
theorem js_newarray {t : ArrayType} (X : jv_X p s m args meth c D dA M) (hd : decode (jt_code M) pc = .ok (.newarray t, n)) (hs : jv_ins call M (.newarray t) n pc ls st h = some o) : jv_Ok p l e R s m args below meth c D dA A z0 y0 M Q pc ls st h o := by
  unfold jv_ins at hs
  simp only at hs
  split at hs
  · rename_i x rest
    split at hs
    · rename_i k hk
      split at hs
      · rename_i hc
        obtain ⟨hc0, hc1, hc2⟩ := hc
        obtain ⟨hn, hs⟩ := jv_len_inv hs
        subst hn
        cases hs
        refine ⟨jv_G.push, rfl, fun hr1 hr2 w H locs cells slots la hW hL hn => ?_⟩
        obtain ⟨hx, hb, hml, hown, hts, hK, hin⟩ := X
        have hat := jt_idx hk
        have hKk := hK.2.1 k _ hc0 hat
        have hcc : cells + 1 ≤ R.cells := by
          have := hW.2.2.2.1
          simp only [jv_newa] at hr1
          omega
        have hss : slots + x.toNatClampNeg ≤ R.slots := by
          have := hW.2.2.2.2.1
          simp only [jv_newa] at hr2
          omega
        have hby : x.toNatClampNeg * componentBytes (newarray.typeOf t) ≤ 536870912 := by
          have h8 : componentBytes (newarray.typeOf t) ≤ 8 := by cases t <;> decide
          exact Nat.le_trans (Nat.mul_le_mul hc2 h8) (by decide)
        refine va_newaK hx hb (jt_ac_of hat (by cases t <;> rfl) hts) rfl hd rfl hc1 rfl hby hcc hss hW.1.1 fun H1 cA e1 z1 o1 hAr hfc => ?_
        have hcA : cA = dA k := by
          have h9 : s.vm.findClass ("[" ++ (newarray.typeOf t).toString) = some (dA k) := by
            have h10 := hKk.2
            cases t <;> exact h10
          exact Option.some.inj (hfc.symm.trans h9)
        subst hcA
        exact w H1 locs _ _ la (hW.push z1 o1 (by unfold jv_at; simp only; rw [if_neg hc0]; exact ⟨⟨_, hat⟩, e1⟩)) hL hn
      · cases hs
    · cases hs
  · cases hs
theorem js_anewarray {k : Nat} (X : jv_X p s m args meth c D dA M) (hd : decode (jt_code M) pc = .ok (.anewarray k, n)) (hs : jv_ins call M (.anewarray k) n pc ls st h = some o) : jv_Ok p l e R s m args below meth c D dA A z0 y0 M Q pc ls st h o := by
  unfold jv_ins at hs
  simp only at hs
  split at hs
  · rename_i x rest ci hf
    split at hs
    · rename_i k hk
      split at hs
      · rename_i hc
        obtain ⟨hc0, hc1, hc2⟩ := hc
        obtain ⟨hn, hs⟩ := jv_len_inv hs
        subst hn
        cases hs
        refine ⟨jv_G.push, rfl, fun hr1 hr2 w H locs cells slots la hW hL hn => ?_⟩
        obtain ⟨hx, hb, hml, hown, hts, hK, hin⟩ := X
        have hat := jt_idx hk
        have hKk := hK.2.1 k _ hc0 hat
        have hw := jt_nl_in _ (jt_f3_mem hf)
        have hcc : cells + 1 ≤ R.cells := by
          have := hW.2.2.2.1
          simp only [jv_newa] at hr1
          omega
        have hss : slots + x.toNatClampNeg ≤ R.slots := by
          have := hW.2.2.2.2.1
          simp only [jv_newa] at hr2
          omega
        refine W.anew hx hb hown (hts _ (jt_gd_of hw rfl)) (va_AO.use (hK.2.2.1 _ (List.mem_of_getElem? hat))) rfl hd rfl hc1 (by omega) hcc hss fun cA kA comp f1 f2 f3 f4 => ?_
        have hcA : cA = dA k := by
          obtain ⟨kA', comp', g1, g2, g3, g4⟩ := hKk.2
          exact Option.some.inj (f1.symm.trans g4)
        subst hcA
        have hz := hW.1.1
        generalize hH1 : H.push ({ cls := dA k, slots := Array.replicate x.toNatClampNeg .null, vm := .none } : Cell) = H1
        have z1 : H1.size = h.2.1 + 1 := by rw [← hH1, Array.size_push, hz]
        have e1 : H1[h.2.1]? = some (arrV (dA k) x.toNatClampNeg (fun _ => .null)) := by rw [← hH1, ← hz, Array.getElem?_push_size, ← arrV_new]
        have o1 : ∀ q : Nat, q < h.2.1 → H1[q]? = H[q]? := fun q hq => by rw [← hH1, Array.getElem?_push, if_neg (Nat.ne_of_lt (by rw [hz]; exact hq))]
        rw [hz]
        exact w H1 locs _ _ la (hW.push z1 o1 (by unfold jv_at; simp only; rw [if_neg hc0]; exact ⟨⟨_, hat⟩, e1⟩)) hL hn
      · cases hs
    · cases hs
  · cases hs
end JY
