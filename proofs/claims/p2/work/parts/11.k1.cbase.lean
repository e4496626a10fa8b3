/-! the checker's words hold: values, locals, stacks, heaps -/
section JK
variable {RT : List jk_D} {pr : Nat → Nat → Bool} {ρ : jk_R} {l0 ls ls' : jv_L} {al : jk_AL} {as : jk_AS} {st : List Value} {h : jv_H} {v : Value}
theorem jk_len {n k : Nat} {α : Type} {x : Option α} (hn : n = k) : jv_len n k x = x := if_pos hn
theorem jk_V_sub {s t : jk_T} (hs : jk_sub s t = true) (hv : jk_V ρ s v) : jk_V ρ t v := by
  rcases s with a | a | a <;> rcases t with b | b | b
  · simp only [jk_sub, Bool.and_eq_true, decide_eq_true_eq] at hs
    obtain ⟨x, rfl, h1, h2⟩ := hv
    exact ⟨x, rfl, by omega, by omega⟩
  · simp [jk_sub] at hs
  · simp [jk_sub] at hs
  · simp [jk_sub] at hs
  · simp only [jk_sub, beq_iff_eq] at hs
    subst hs
    exact hv
  · cases a
    · simp only [jk_sub, Bool.not_eq_true'] at hs
      exact Or.inl ⟨hs, hv⟩
    · simp [jk_sub] at hs
  · simp [jk_sub] at hs
  · simp [jk_sub] at hs
  · simp only [jk_sub, Bool.and_eq_true, beq_iff_eq, Bool.or_eq_true, Bool.not_eq_true'] at hs
    rcases hv with ⟨e, rfl⟩ | ⟨q, rfl, hq⟩
    · rcases hs.2 with q | q
      · rw [e] at q; cases q
      · exact Or.inl ⟨q, rfl⟩
    · exact Or.inr ⟨q, rfl, by rw [← hs.1]; exact hq⟩
theorem jk_Vs_sub : ∀ {ss ts : List jk_T} {vs : List Value}, jk_subs ss ts = true → jk_Vs ρ ss vs → jk_Vs ρ ts vs
  | [], [], [], _, _ => True.intro
  | [], [], _ :: _, _, hv => hv.elim
  | [], _ :: _, _, hs, _ => by simp [jk_subs] at hs
  | _ :: _, [], _, hs, _ => by simp [jk_subs] at hs
  | _ :: _, _ :: _, [], _, hv => hv.elim
  | s :: ss, t :: ts, v :: vs, hs, hv => by
    simp only [jk_subs, Bool.and_eq_true] at hs
    exact ⟨jk_V_sub hs.1 hv.1, jk_Vs_sub hs.2 hv.2⟩
theorem jk_Vs_len : ∀ {ts : List jk_T} {vs : List Value}, jk_Vs ρ ts vs → vs.length = ts.length
  | [], [], _ => rfl
  | [], _ :: _, hv => hv.elim
  | _ :: _, [], hv => hv.elim
  | t :: ts, v :: vs, hv => by simp [jk_Vs_len hv.2]
theorem jk_Vs_get : ∀ {ts : List jk_T} {vs : List Value} {k : Nat} {t : jk_T}, jk_Vs ρ ts vs → ts[k]? = some t → ∃ v, vs[k]? = some v ∧ jk_V ρ t v
  | [], _, _, _, _, e => by simp at e
  | _ :: _, [], _, _, hv, _ => hv.elim
  | t :: ts, v :: vs, 0, t', hv, e => by
    simp only [List.getElem?_cons_zero, Option.some.injEq] at e
    subst e
    exact ⟨v, rfl, hv.1⟩
  | t :: ts, v :: vs, k + 1, t', hv, e => by
    simp only [List.getElem?_cons_succ] at e ⊢
    exact jk_Vs_get hv.2 e
theorem jk_Vs_set : ∀ {ts : List jk_T} {vs : List Value} {k : Nat} {t : jk_T}, jk_Vs ρ ts vs → ts[k]? = some t → jk_V ρ t v → jk_Vs ρ ts (vs.set k v)
  | [], _, _, _, _, e, _ => by simp at e
  | _ :: _, [], _, _, hv, _, _ => hv.elim
  | t :: ts, v :: vs, 0, t', hv, e, hn => by
    simp only [List.getElem?_cons_zero, Option.some.injEq] at e
    subst e
    exact ⟨hn, hv.2⟩
  | t :: ts, v :: vs, k + 1, t', hv, e, hn => by
    simp only [List.getElem?_cons_succ] at e
    exact ⟨hv.1, jk_Vs_set hv.2 e hn⟩
theorem jk_Vs_app : ∀ {ts us : List jk_T} {vs ws : List Value}, jk_Vs ρ ts vs → jk_Vs ρ us ws → jk_Vs ρ (ts ++ us) (vs ++ ws)
  | [], _, [], _, _, hw => hw
  | [], _, _ :: _, _, hv, _ => hv.elim
  | _ :: _, _, [], _, hv, _ => hv.elim
  | t :: ts, us, v :: vs, ws, hv, hw => ⟨hv.1, jk_Vs_app hv.2 hw⟩
theorem jk_Vs_rev : ∀ {ts : List jk_T} {vs : List Value}, jk_Vs ρ ts vs → jk_Vs ρ ts.reverse vs.reverse
  | [], [], _ => True.intro
  | [], _ :: _, hv => hv.elim
  | _ :: _, [], hv => hv.elim
  | t :: ts, v :: vs, hv => by
    rw [List.reverse_cons, List.reverse_cons]
    exact jk_Vs_app (jk_Vs_rev hv.2) ⟨hv.1, True.intro⟩
theorem jk_V_w {t : jk_T} (hv : jk_V ρ t v) : v.category = jk_w t := by
  rcases t with a | a | a
  · obtain ⟨x, rfl, _⟩ := hv; rfl
  · cases a
    · have e : v = .null := hv
      subst e; rfl
    · obtain ⟨x, rfl⟩ := hv; rfl
  · rcases hv with ⟨_, rfl⟩ | ⟨q, rfl, _⟩ <;> rfl
theorem jk_V_top {x : Int32} : jk_V ρ jk_top (.int x) := ⟨x, rfl, by have := x.le_toInt; show (-2147483648 : Int) ≤ _; omega, by have := x.toInt_lt; show _ ≤ (2147483647 : Int); omega⟩
theorem jk_V_rg {x : Int32} {lo hi : Int} (h1 : lo ≤ x.toInt) (h2 : x.toInt ≤ hi) : jk_V ρ (jk_rg lo hi) (.int x) := by
  unfold jk_rg
  split
  · exact ⟨x, rfl, h1, h2⟩
  · exact jk_V_top
theorem jk_V_ps {x : Int32} {i : Int} (hi : x.toInt = i) : jk_V ρ (.inl (i, i)) (.int x) := ⟨x, rfl, Int.le_of_eq hi.symm, Int.le_of_eq hi⟩
theorem jk_x_c {i : Nat} (e : ls'[i]? = ls[i]?) : jk_x ls' i = jk_x ls i := by unfold jk_x; rw [e]
theorem jk_L_ne (hL : jk_L ρ l0 al ls) {i j : Nat} (hij : ¬ j = i) {o : Option (jk_T × Option Int)} {w : Option Value} {t : jk_T} {δ : Option Int} (e : (al.set j o)[i]? = some (some (t, δ))) : ∃ v, (ls.set j w)[i]? = some (some v) ∧ jk_V ρ t v ∧ ∀ d, δ = some d → jk_x (ls.set j w) i = jk_x l0 i + d := by
  rw [List.getElem?_set_ne hij] at e
  obtain ⟨v, e1, hv, hd⟩ := hL.2 i t δ e
  have e2 : (ls.set j w)[i]? = ls[i]? := List.getElem?_set_ne hij
  exact ⟨v, e2.trans e1, hv, fun d q => (jk_x_c e2).trans (hd d q)⟩
theorem jk_no {j : Nat} {t : jk_T} {δ : Option Int} (e : (al.set j none)[j]? = some (some (t, δ))) : False := by
  rw [List.getElem?_set] at e
  simp only [if_true] at e
  split at e <;> cases e
theorem jk_setn (hL : jk_L ρ l0 al ls) (j : Nat) : jk_L ρ l0 (al.set j none) (ls.set j none) := by
  refine ⟨by simp [hL.1], fun i t δ e => ?_⟩
  by_cases hij : j = i
  · subst hij; exact (jk_no e).elim
  · exact jk_L_ne hL hij e
theorem jk_setm (hL : jk_L ρ l0 al ls) (j : Nat) : jk_L ρ l0 (al.set j none) ls := by
  refine ⟨by simp [hL.1], fun i t δ e => ?_⟩
  by_cases hij : j = i
  · subst hij; exact (jk_no e).elim
  · rw [List.getElem?_set_ne hij] at e
    exact hL.2 i t δ e
theorem jk_set (hL : jk_L ρ l0 al ls) {j : Nat} {t : jk_T} {δ : Option Int} (hj : j < al.length) (hv : jk_V ρ t v) (hd : ∀ d, δ = some d → ∃ x : Int32, v = .int x ∧ x.toInt = jk_x l0 j + d) : jk_L ρ l0 (al.set j (some (t, δ))) (ls.set j (some v)) := by
  refine ⟨by simp [hL.1], fun i t' δ' e => ?_⟩
  by_cases hij : j = i
  · subst hij
    have hj2 : j < ls.length := by rw [hL.1]; exact hj
    rw [List.getElem?_set_self hj] at e
    cases e
    have e2 : (ls.set j (some v))[j]? = some (some v) := List.getElem?_set_self hj2
    refine ⟨v, e2, hv, fun d q => ?_⟩
    obtain ⟨x, rfl, hx⟩ := hd d q
    have e3 : jk_x (ls.set j (some (.int x))) j = x.toInt := by unfold jk_x; rw [e2]
    exact e3.trans hx
  · exact jk_L_ne hL hij e
theorem jk_kl_ok (hL : jk_L ρ l0 al ls) (i : Nat) : jk_L ρ l0 (jk_kl al i) (jv_kill ls i) := by
  cases i with
  | zero => exact hL
  | succ j =>
    show jk_L ρ l0 (if jk_is2 al[j]? = true then al.set j none else al) (if jv_is2 ls[j]? = true then ls.set j none else ls)
    by_cases ha : jk_is2 al[j]? = true
    · rw [if_pos ha]
      by_cases hb : jv_is2 ls[j]? = true
      · rw [if_pos hb]; exact jk_setn hL j
      · rw [if_neg hb]; exact jk_setm hL j
    · rw [if_neg ha]
      by_cases hb : jv_is2 ls[j]? = true
      · rw [if_pos hb]
        refine ⟨by simp [hL.1], fun i t δ e => ?_⟩
        by_cases hij : j = i
        · subst hij
          exfalso
          obtain ⟨v, e1, hv, _⟩ := hL.2 j t δ e
          rw [e1] at hb
          have hc : v.category = 2 := by simpa [jv_is2] using hb
          rw [jk_V_w hv] at hc
          apply ha
          rw [e]
          rcases t with a | a | a
          · cases hc
          · cases a
            · cases hc
            · rfl
          · cases hc
        · have e' : (al.set j none)[i]? = some (some (t, δ)) := by rw [List.getElem?_set_ne hij]; exact e
          exact jk_L_ne hL hij e'
      · rw [if_neg hb]; exact hL
theorem jk_kl_len (i : Nat) : (jk_kl al i).length = al.length := by
  unfold jk_kl
  split
  · rfl
  · split <;> simp
theorem jk_S_ns : ∀ {as : jk_AS} {st : List Value}, jk_S ρ ls as st → jk_S ρ ls' (jk_ns as) st
  | [], [], _ => True.intro
  | [], _ :: _, hS => hS.elim
  | _ :: _, [], hS => hS.elim
  | a :: as, v :: vs, hS => ⟨hS.1, fun i e => (by cases e), jk_S_ns hS.2.2⟩
theorem jk_S_drop : ∀ {k : Nat} {as : jk_AS} {st : List Value}, jk_S ρ ls as st → jk_S ρ ls (as.drop k) (st.drop k)
  | 0, _, _, hS => hS
  | _ + 1, [], [], _ => True.intro
  | _ + 1, [], _ :: _, hS => hS.elim
  | _ + 1, _ :: _, [], hS => hS.elim
  | k + 1, _ :: _, _ :: _, hS => jk_S_drop (k := k) hS.2.2
theorem jk_S_take : ∀ {k : Nat} {as : jk_AS} {st : List Value}, jk_S ρ ls as st → jk_Vs ρ ((as.take k).map fun a => a.1) (st.take k)
  | 0, _, _, _ => by simp only [List.take_zero, List.map_nil]; exact True.intro
  | _ + 1, [], [], _ => True.intro
  | _ + 1, [], _ :: _, hS => hS.elim
  | _ + 1, _ :: _, [], hS => hS.elim
  | k + 1, _ :: _, _ :: _, hS => ⟨hS.1, jk_S_take (k := k) hS.2.2⟩
theorem jk_S_len : ∀ {as : jk_AS} {st : List Value}, jk_S ρ ls as st → st.length = as.length
  | [], [], _ => rfl
  | [], _ :: _, hS => hS.elim
  | _ :: _, [], hS => hS.elim
  | _ :: _, _ :: _, hS => by simp [jk_S_len hS.2.2]
theorem jk_S_w : ∀ {as : jk_AS} {st : List Value}, jk_S ρ ls as st → (st.map fun v => v.category) = as.map fun a => jk_w a.1
  | [], [], _ => rfl
  | [], _ :: _, hS => hS.elim
  | _ :: _, [], hS => hS.elim
  | _ :: _, _ :: _, hS => by simp [jk_V_w hS.1, jk_S_w hS.2.2]
theorem jk_S_nil {st : List Value} (hS : jk_S ρ ls [] st) : st = [] := by
  cases st with
  | nil => rfl
  | cons v vs => exact hS.elim
theorem jk_S_cons {a : jk_T × Option Nat} {as : jk_AS} {st : List Value} (hS : jk_S ρ ls (a :: as) st) : ∃ v vs, st = v :: vs ∧ jk_V ρ a.1 v ∧ (∀ i, a.2 = some i → ls[i]? = some (some v)) ∧ jk_S ρ ls as vs := by
  cases st with
  | nil => exact hS.elim
  | cons v vs => exact ⟨v, vs, rfl, hS.1, hS.2.1, hS.2.2⟩
theorem jk_nar_ok {s : Option Nat} {t : jk_T} (hL : jk_L ρ l0 al ls) (hs : ∀ i, s = some i → ls[i]? = some (some v)) (hv : jk_V ρ t v) : jk_L ρ l0 (jk_nar al s t) ls := by
  unfold jk_nar
  cases s with
  | none => exact hL
  | some i =>
    simp only
    split
    · rename_i t' δ e
      refine ⟨by simp [hL.1], fun k t2 δ2 e2 => ?_⟩
      by_cases hik : i = k
      · subst hik
        rw [List.getElem?_set_self (List.getElem?_eq_some_iff.mp e).1] at e2
        cases e2
        obtain ⟨v', e1, _, hd⟩ := hL.2 i t' δ e
        exact ⟨v, hs i rfl, hv, hd⟩
      · rw [List.getElem?_set_ne hik] at e2
        exact hL.2 k t2 δ2 e2
    · exact hL
theorem jk_cut_ok {c : ClassFile.Cond} {x y : Int32} {X Y : Int × Int} (hx : X.1 ≤ x.toInt ∧ x.toInt ≤ X.2) (hy : Y.1 ≤ y.toInt ∧ y.toInt ≤ Y.2) (hc : jv_cmp c x y = true) : (jk_cut c X Y).1 ≤ x.toInt ∧ x.toInt ≤ (jk_cut c X Y).2 := by
  cases c
  · have e : x = y := of_decide_eq_true hc
    subst e
    simp only [jk_cut]
    omega
  · have e : ¬ x = y := of_decide_eq_true hc
    have e2 : ¬ x.toInt = y.toInt := fun q => e (Int32.toInt_inj.mp q)
    simp only [jk_cut, beq_iff_eq]
    split
    · split
      · simp only; omega
      · split
        · simp only; omega
        · exact hx
    · exact hx
  · have e := Int32.lt_iff_toInt_lt.mp (of_decide_eq_true hc : x < y)
    simp only [jk_cut]
    omega
  · have e := Int32.le_iff_toInt_le.mp (of_decide_eq_true hc : y ≤ x)
    simp only [jk_cut]
    omega
  · have e := Int32.lt_iff_toInt_lt.mp (of_decide_eq_true hc : y < x)
    simp only [jk_cut]
    omega
  · have e := Int32.le_iff_toInt_le.mp (of_decide_eq_true hc : x ≤ y)
    simp only [jk_cut]
    omega
theorem jk_flip_ok {c : ClassFile.Cond} {x y : Int32} (hc : jv_cmp c x y = true) : jv_cmp (jk_flip c) y x = true := by
  cases c
  · exact decide_eq_true (of_decide_eq_true hc : x = y).symm
  · exact decide_eq_true (fun q => (of_decide_eq_true hc : ¬ x = y) q.symm)
  · exact hc
  · exact hc
  · exact hc
  · exact hc
theorem jk_neg_ok {c : ClassFile.Cond} {x y : Int32} (hc : ¬ jv_cmp c x y = true) : jv_cmp (jk_neg c) x y = true := by
  cases c
  · exact decide_eq_true (fun q => hc (decide_eq_true q))
  · exact decide_eq_true (Decidable.byContradiction fun q => hc (decide_eq_true q))
  · exact decide_eq_true (Int32.not_lt.mp fun q => hc (decide_eq_true q))
  · exact decide_eq_true (Int32.not_le.mp fun q => hc (decide_eq_true q))
  · exact decide_eq_true (Int32.not_lt.mp fun q => hc (decide_eq_true q))
  · exact decide_eq_true (Int32.not_le.mp fun q => hc (decide_eq_true q))
theorem jk_bs_ok {c : ClassFile.Cond} {t : Nat} {x y : Int32} {X Y : Int × Int} {sx sy : Option Nat} (hx : X.1 ≤ x.toInt ∧ x.toInt ≤ X.2) (hy : Y.1 ≤ y.toInt ∧ y.toInt ≤ Y.2) (hsx : ∀ i, sx = some i → ls[i]? = some (some (.int x))) (hsy : ∀ i, sy = some i → ls[i]? = some (some (.int y))) (hc : jv_cmp c x y = true) (hL : jk_L ρ l0 al ls) : ∃ al', (t, al', as) ∈ jk_bs c t al as X sx Y sy ∧ jk_L ρ l0 al' ls := by
  have h1 := jk_cut_ok hx hy hc
  have h2 := jk_cut_ok hy hx (jk_flip_ok hc)
  unfold jk_bs
  rw [if_neg (by simp only [Bool.or_eq_true, decide_eq_true_eq]; omega)]
  exact ⟨_, List.mem_singleton.mpr rfl, jk_nar_ok (jk_nar_ok hL hsx ⟨x, rfl, h1.1, h1.2⟩) hsy ⟨y, rfl, h2.1, h2.2⟩⟩
theorem jk_ob_ok {t : jk_T} {q ci : Nat} {ts : List jk_T} (e : jk_ob RT t = some (q, ci, ts)) (hv : jk_V ρ t v) (hO : jk_Ok RT ρ h) : ∃ a fs, v = .ref a ∧ ρ a = some q ∧ RT[q]? = some (.inl (ci, ts)) ∧ h.1 a = some (.inl (ci, fs)) ∧ jk_Vs ρ ts fs := by
  unfold jk_ob at e
  split at e
  · rename_i q'
    split at e
    · rename_i ci' ts' hr
      cases e
      rcases hv with ⟨e1, _⟩ | ⟨a, rfl, ha⟩
      · cases e1
      · obtain ⟨d, c, h1, h2, h3⟩ := hO a q ha
        rw [hr] at h1
        cases h1
        rcases c with ⟨ci2, fs⟩ | ⟨kd, n, f⟩
        · obtain ⟨rfl, h5⟩ := h3
          exact ⟨a, fs, rfl, ha, hr, h2, h5⟩
        · exact h3.elim
    · cases e
  · cases e
theorem jk_ar_ok {t e' : jk_T} {q kd lo : Nat} (e : jk_ar RT t = some (q, kd, lo, e')) (hv : jk_V ρ t v) (hO : jk_Ok RT ρ h) : ∃ a n f, v = .ref a ∧ ρ a = some q ∧ RT[q]? = some (.inr (kd, lo, e')) ∧ h.1 a = some (.inr (kd, n, f)) ∧ lo ≤ n ∧ n ≤ 100000 ∧ ∀ i, jk_V ρ e' (f i) := by
  unfold jk_ar at e
  split at e
  · rename_i q'
    split at e
    · rename_i kd' lo' e2 hr
      cases e
      rcases hv with ⟨e1, _⟩ | ⟨a, rfl, ha⟩
      · cases e1
      · obtain ⟨d, c, h1, h2, h3⟩ := hO a q ha
        rw [hr] at h1
        cases h1
        rcases c with ⟨ci2, fs⟩ | ⟨kd2, n, f⟩
        · exact h3.elim
        · obtain ⟨rfl, h5, h6, h7⟩ := h3
          exact ⟨a, n, f, rfl, ha, hr, h2, h5, h6, h7⟩
    · cases e
  · cases e
theorem jk_Ok_up {a q : Nat} {d : jk_D} {c : jv_C} (hO : jk_Ok RT ρ h) (ha : ρ a = some q) (hd : RT[q]? = some d) (hc : jk_C ρ d c) : jk_Ok RT ρ (jv_up h.1 a c, h.2) := by
  intro b r hr
  by_cases hb : b = a
  · subst hb
    rw [ha] at hr
    cases hr
    exact ⟨d, c, hd, if_pos rfl, hc⟩
  · obtain ⟨d', c', h1, h2, h3⟩ := hO b r hr
    exact ⟨d', c', h1, (if_neg hb).trans h2, h3⟩
theorem jk_Fr_up {a q : Nat} {c c' : jv_C} (ha : ρ a = some q) (hc : h.1 a = some c) (hs : jk_sm (pr q) c c') : jk_Fr pr ρ h (jv_up h.1 a c', h.2) := by
  refine ⟨rfl, fun b hb => ?_, fun b r x hb hx => ?_⟩
  · exact if_neg (fun e => by rw [e, ha] at hb; cases hb)
  · by_cases e : b = a
    · subst e
      rw [ha] at hb
      cases hb
      rw [hc] at hx
      cases hx
      exact ⟨c', if_pos rfl, hs⟩
    · exact ⟨x, (if_neg e).trans hx, jk_sm_rf x⟩
theorem jk_bit {x : Int32} (h0 : 0 ≤ x.toInt) (h1 : x.toInt ≤ 1) : x = 0 ∨ x = 1 := by
  by_cases h : x.toInt = 0
  · exact Or.inl (Int32.toInt_inj.mp (h.trans (by decide)))
  · exact Or.inr (Int32.toInt_inj.mp ((show x.toInt = 1 by omega).trans (by decide)))
theorem jk_fit_ok {f : FieldType} {t : jk_T} (hf : jk_fit f t = true) (hv : jk_V ρ t v) : narrow f v = v ∧ fits f v = true := by
  rcases t with a | a | a
  · obtain ⟨x, rfl, h1, h2⟩ := hv
    cases f <;> first | (simp [jk_fit] at hf; done) | exact ⟨rfl, rfl⟩ | skip
    simp only [jk_fit, Bool.and_eq_true, decide_eq_true_eq] at hf
    rcases jk_bit (x := x) (by omega) (by omega) with rfl | rfl <;> exact ⟨rfl, rfl⟩
  · cases a
    · have e : v = .null := hv
      subst e
      cases f <;> first | (simp [jk_fit] at hf; done) | exact ⟨rfl, rfl⟩
    · obtain ⟨x, rfl⟩ := hv
      cases f <;> first | (simp [jk_fit] at hf; done) | exact ⟨rfl, rfl⟩
  · rcases hv with ⟨_, rfl⟩ | ⟨q, rfl, _⟩ <;> cases f <;> first | (simp [jk_fit] at hf; done) | exact ⟨rfl, rfl⟩
theorem jk_V_add {x y : Int32} {X Y : Int × Int} (hx : X.1 ≤ x.toInt ∧ x.toInt ≤ X.2) (hy : Y.1 ≤ y.toInt ∧ y.toInt ≤ Y.2) : jk_V ρ (jk_rg (X.1 + Y.1) (X.2 + Y.2)) (.int (x + y)) := by
  unfold jk_rg
  split
  · rename_i hb
    simp only [Bool.and_eq_true, decide_eq_true_eq] at hb
    have e : (x + y).toInt = x.toInt + y.toInt := by
      rw [Int32.toInt_add]
      exact Int.bmod_eq_of_le (by omega) (by omega)
    exact ⟨_, rfl, by rw [e]; omega, by rw [e]; omega⟩
  · exact jk_V_top
theorem jk_V_subt {x y : Int32} {X Y : Int × Int} (hx : X.1 ≤ x.toInt ∧ x.toInt ≤ X.2) (hy : Y.1 ≤ y.toInt ∧ y.toInt ≤ Y.2) : jk_V ρ (jk_rg (X.1 - Y.2) (X.2 - Y.1)) (.int (x - y)) := by
  unfold jk_rg
  split
  · rename_i hb
    simp only [Bool.and_eq_true, decide_eq_true_eq] at hb
    have e : (x - y).toInt = x.toInt - y.toInt := by
      rw [Int32.toInt_sub]
      exact Int.bmod_eq_of_le (by omega) (by omega)
    exact ⟨_, rfl, by rw [e]; omega, by rw [e]; omega⟩
  · exact jk_V_top
theorem jk_V_mul {x y : Int32} {X Y : Int × Int} {t : jk_T} (hx : X.1 ≤ x.toInt ∧ x.toInt ≤ X.2) (hy : Y.1 ≤ y.toInt ∧ y.toInt ≤ Y.2) (ht : jk_fmul X Y = some t) : jk_V ρ t (.int (x * y)) := by
  unfold jk_fmul at ht
  split at ht
  · rename_i h0
    simp only [Bool.and_eq_true, decide_eq_true_eq] at h0
    cases ht
    have a1 : X.1 * Y.1 ≤ x.toInt * y.toInt := Int.mul_le_mul hx.1 hy.1 h0.2 (by omega)
    have a2 : x.toInt * y.toInt ≤ X.2 * Y.2 := Int.mul_le_mul hx.2 hy.2 (by omega) (by omega)
    unfold jk_rg
    split
    · rename_i hb
      simp only [Bool.and_eq_true, decide_eq_true_eq] at hb
      have e : (x * y).toInt = x.toInt * y.toInt := by
        rw [Int32.toInt_mul]
        exact Int.bmod_eq_of_le (by omega) (by omega)
      exact ⟨_, rfl, by rw [e]; exact a1, by rw [e]; exact a2⟩
    · exact jk_V_top
  · cases ht
    exact jk_V_top
theorem jk_and_le {x y : Int32} (hy : 0 ≤ y.toInt) : 0 ≤ (x &&& y).toInt ∧ (x &&& y).toInt ≤ y.toInt := by
  have m : y.toBitVec.msb = false := by
    rw [BitVec.msb_eq_false_iff_two_mul_lt]
    have := BitVec.toInt_eq_toNat_cond y.toBitVec
    have e : y.toInt = y.toBitVec.toInt := rfl
    have := y.toBitVec.isLt
    split at * <;> omega
  have e1 : (x &&& y).toInt = ((x.toBitVec &&& y.toBitVec).toNat : Int) := by
    show (x.toBitVec &&& y.toBitVec).toInt = _
    exact BitVec.toInt_eq_toNat_of_msb (by rw [BitVec.msb_and, m, Bool.and_false])
  have e2 : y.toInt = (y.toBitVec.toNat : Int) := BitVec.toInt_eq_toNat_of_msb m
  rw [e1, e2, BitVec.toNat_and]
  have := Nat.and_le_right (n := x.toBitVec.toNat) (m := y.toBitVec.toNat)
  omega
theorem jk_V_and {x y : Int32} {X Y : Int × Int} {t : jk_T} (hx : X.1 ≤ x.toInt ∧ x.toInt ≤ X.2) (hy : Y.1 ≤ y.toInt ∧ y.toInt ≤ Y.2) (ht : jk_fand X Y = some t) : jk_V ρ t (.int (x &&& y)) := by
  unfold jk_fand at ht
  split at ht
  · rename_i h0
    cases ht
    have h1 := of_decide_eq_true h0
    have := jk_and_le (x := x) (y := y) (by omega)
    exact ⟨_, rfl, this.1, by show _ ≤ Y.2; omega⟩
  · split at ht
    · rename_i h0
      cases ht
      have h1 := of_decide_eq_true h0
      have := jk_and_le (x := y) (y := x) (by omega)
      rw [Int32.and_comm] at this
      exact ⟨_, rfl, this.1, by show _ ≤ X.2; omega⟩
    · cases ht
      exact jk_V_top
theorem jk_V_div {x y : Int32} {X Y : Int × Int} {t : jk_T} (hx : X.1 ≤ x.toInt ∧ x.toInt ≤ X.2) (hy : Y.1 ≤ y.toInt ∧ y.toInt ≤ Y.2) (ht : jk_fdiv X Y = some t) : ¬ y = 0 ∧ jk_V ρ t (.int (x / y)) := by
  unfold jk_fdiv at ht
  have hn : 0 < Y.1 → ¬ y = 0 := fun q e => by
    rw [e] at hy
    have : (0 : Int32).toInt = 0 := by decide
    omega
  split at ht
  · rename_i h0
    simp only [Bool.and_eq_true, beq_iff_eq, decide_eq_true_eq] at h0
    cases ht
    refine ⟨hn h0.1.2, _, rfl, ?_, ?_⟩
    all_goals rw [lg_idiv_nonneg (by omega) (by omega), show y.toInt = Y.1 by omega]
    · exact Int.ediv_le_ediv h0.1.2 hx.1
    · exact Int.ediv_le_ediv h0.1.2 hx.2
  · split at ht
    · rename_i h0
      cases ht
      exact ⟨hn (of_decide_eq_true h0), jk_V_top⟩
    · cases ht
theorem jk_V_rem {y z : Int32} {X Y : Int × Int} {t : jk_T} (hy : Y.1 ≤ y.toInt ∧ y.toInt ≤ Y.2) (ht : jk_frem X Y = some t) : ¬ y = 0 ∧ jk_V ρ t (.int z) := by
  unfold jk_frem at ht
  split at ht
  · rename_i h0
    cases ht
    have h1 := of_decide_eq_true h0
    refine ⟨fun e => ?_, jk_V_top⟩
    rw [e] at hy
    have : (0 : Int32).toInt = 0 := by decide
    omega
  · cases ht
end JK
