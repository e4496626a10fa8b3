/-! the class and the reference in one heap -/
section JW
variable {ρ ρ' : jk_R} {h h1 h2 : jv_H} {b0 s0 b1 s1 x m b N : Nat} {xs : Nat → Int32} {I I' : Nat → Int32} {A A' : Nat → Nat → Int32} {L L' : Nat → Nat → Int64}
theorem jl_gf {a r c k : Nat} (hs : ∀ a r, ρ a = some r → h2.1 a = h.1 a) (ha : ρ a = some r) : jv_gf h2 a c k = jv_gf h a c k := by
  unfold jv_gf
  rw [hs a r ha]
theorem jl_ga {a r : Nat} {ty : FieldType} {j : Int32} (hs : ∀ a r, ρ a = some r → h2.1 a = h.1 a) (ha : ρ a = some r) : jv_al h2 a ty j = jv_al h a ty j := by
  unfold jv_al
  rw [hs a r ha]
theorem jl_Ok (hs : ∀ a r, ρ a = some r → h2.1 a = h.1 a) (hO : jk_Ok jc_RT ρ h) : jk_Ok jc_RT ρ h2 := fun a q e => by
  obtain ⟨d, c, g1, g2, g3⟩ := hO a q e
  exact ⟨d, c, g1, (hs a q e).trans g2, g3⟩
theorem jl_Bk (hs : ∀ a r, ρ a = some r → h2.1 a = h.1 a) (hO : jk_Ok jc_RT ρ h) {a k : Nat} (ha : ρ a = some 4) : jg_B h2 a k = jg_B h a k := by
  obtain ⟨p, e, hp⟩ := jg_ref (k := 6) hO ha rfl rfl
  unfold jg_B
  rw [jl_gf hs ha, e]
  exact jl_ga hs hp
theorem jl_Rk (hs : ∀ a r, ρ a = some r → h2.1 a = h.1 a) (hO : jk_Ok jc_RT ρ h) {k : Nat} (hx : ρ x = some 0) : jg_R h2 x k = jg_R h x k := by
  obtain ⟨p, e, hp⟩ := jg_ref (k := 3) hO hx rfl rfl
  unfold jg_R
  rw [jl_gf hs hx, e]
  exact jl_ga hs hp
theorem jl_Ek (hs : ∀ a r, ρ a = some r → h2.1 a = h.1 a) {a : Nat} (ha : ρ a = some 4) : jg_E h2 a ↔ jg_E h a := by
  unfold jg_E
  rw [jl_gf hs ha]
theorem jl_nnk (hs : ∀ a r, ρ a = some r → h2.1 a = h.1 a) (hO : jk_Ok jc_RT ρ h) {a : Nat} (ha : ρ a = some 4) : jg_nn h2 a = jg_nn h a := by
  unfold jg_nn
  congr 1
  funext k
  rw [jl_Bk hs hO ha]
theorem jl_Jk (hs : ∀ a r, ρ a = some r → h2.1 a = h.1 a) {n k0 : Nat} {js c : Nat → Nat} (hO : jk_Ok jc_RT ρ h) (hx : ρ x = some 0) (hJ : jg_J ρ h x n k0 js c) : jg_J ρ h2 x n k0 js c := by
  obtain ⟨g1, g2, g3, g4, g5, g6, g7⟩ := hJ
  refine ⟨g1, by rw [jl_gf hs hx]; exact g2, fun i hi => ?_, g4, g5, fun a b p ha hb e e' => ?_, fun a k b ha hk e => ?_⟩
  · obtain ⟨a1, a2, a3, a4⟩ := g3 i hi
    refine ⟨a1, fun hm => by rw [jl_Rk hs hO hx]; exact a2 hm, a3, fun e => ?_⟩
    rw [jl_nnk hs hO a1]
    exact a4 ((jl_Ek hs a1).mp e)
  · rw [jl_gf hs ha] at e
    rw [jl_gf hs hb] at e'
    exact g6 a b p ha hb e e'
  · rw [jl_Bk hs hO ha] at e
    rw [jl_gf hs (jg_Br hO ha e)]
    exact g7 a k b ha hk e
theorem jl_Ak (hs : ∀ a r, ρ a = some r → h2.1 a = h.1 a) (hA : jg_A ρ h) : jg_A ρ h2 := by
  intro a ha e
  rw [jl_gf hs ha] at e
  exact (jl_Ek hs ha).mpr (hA a ha e)
/-- the class's part looks at its own cells alone -/
theorem jl_I (hs : ∀ a r, ρ a = some r → h2.1 a = h.1 a) (hI : jg_I 0 b0 s0 ρ h x) (g1 : h.2.1 ≤ h2.2.1) (g2 : h2.2.1 + b0 ≤ h.2.1 + b1) (g3 : h2.2.2 + s0 ≤ h.2.2 + s1) : jg_I 0 b1 s1 ρ h2 x := by
  obtain ⟨hO, hx, hn, n, js, c, hJ, r1, r2⟩ := hI
  exact ⟨jl_Ok hs hO, hx, fun q hq => hn q (Nat.le_trans g1 hq), n, js, c, jl_Jk hs hO hx hJ, by omega, by omega⟩
theorem jl_jo0 {w : Nat} (hs : ∀ a r, ρ a = some r → h2.1 a = h.1 a) (hO : jk_Ok jc_RT ρ h) (hx : ρ x = some 0) (h0 : jo_0 h x w) : jo_0 h2 x w := by
  obtain ⟨w1, w2, w3, w4, tr, w5, w6⟩ := h0
  obtain ⟨p, e, hp⟩ := jg_ref (k := 0) hO hx rfl rfl
  rw [e] at w5
  cases w5
  exact ⟨w1, by rw [jl_gf hs hx]; exact w2, by rw [jl_gf hs hx]; exact w3, by rw [jl_gf hs hx]; exact w4, tr, by rw [jl_gf hs hx]; exact e, by rw [jl_gf hs hp]; exact w6⟩
/-! the picture of both -/
def jl_S0 (b N : Nat) (xs : Nat → Int32) (x m b0 s0 : Nat) (ρ : jk_R) (I : Nat → Int32) (A : Nat → Nat → Int32) (L : Nat → Nat → Int64) (h : jv_H) : Prop :=
  jg_I 0 b0 s0 ρ h x ∧ jg_A ρ h ∧ (∀ q, (q = b ∨ (m ≤ q ∧ q < m + 27)) → ρ q = none ∧ q < h.2.1) ∧ (∀ q c, jm_in m I A L q = some c → h.1 q = some c) ∧ js_T I A ∧ h.1 b = some (.inr (jt_scr, N, fun j => .int (xs j))) ∧ ¬ (m ≤ b ∧ b < m + 27)
def jl_Q (ρ : jk_R) (h : jv_H) (x : Nat) (I : Nat → Int32) : Prop := (∃ w, jo_0 h x w ∧ I 5 = nI 0 ∧ I 2 = nI w) ∨ ((∃ a, ρ a = some 4) ∧ ∃ J, 1 ≤ J ∧ J ≤ 12 ∧ I 5 = nI J)
def jl_S (b N : Nat) (xs : Nat → Int32) (x m b0 s0 : Nat) (h : jv_H) : Prop := ∃ ρ I A L, jl_S0 b N xs x m b0 s0 ρ I A L h ∧ jl_Q ρ h x I
theorem jl_in {q : Nat} {c : jv_C} (e : jm_in m I A L q = some c) : m ≤ q ∧ q < m + 27 := by
  unfold jm_in at e
  split at e
  · cases e
  · rename_i hq
    have : q - m < 27 := by
      unfold jm_at at e
      split at e <;> first | omega | cases e
    omega
theorem jl_out {q : Nat} {rest : Nat → Option jv_C} {z : Nat × Nat} (hq : ¬ (m ≤ q ∧ q < m + 27)) : (jm_H m I A L rest z).1 q = rest q := by
  show jm_map m I A L rest q = _
  unfold jm_map
  cases e : jm_in m I A L q with
  | none => rfl
  | some c => exact absurd (jl_in e) hq
theorem jl_inn {q : Nat} {c : jv_C} {rest : Nat → Option jv_C} {z : Nat × Nat} (e : jm_in m I A L q = some c) : (jm_H m I A L rest z).1 q = some c := by
  show jm_map m I A L rest q = _
  unfold jm_map
  rw [e]
theorem jl_v (hS : jl_S0 b N xs x m b0 s0 ρ I A L h) : h = jm_H m I A L h.1 h.2 := by
  unfold jm_H
  apply Prod.ext
  · funext q
    show h.1 q = jm_map m I A L h.1 q
    unfold jm_map
    cases e : jm_in m I A L q with
    | none => rfl
    | some c => exact hS.2.2.2.1 q c e
  · rfl
/-- the class has moved -/
theorem jl_c (hS : jl_S0 b N xs x m b0 s0 ρ I A L h) (hI : jg_I 0 b0 s0 ρ' h1 x) (hA : jg_A ρ' h1) (hX : jg_X ρ h ρ' h1) : jl_S0 b N xs x m b0 s0 ρ' I A L h1 := by
  obtain ⟨g1, g2, g3, g4, g5, g6, g7⟩ := hS
  refine ⟨hI, hA, fun q hq => ?_, fun q c e => ?_, g5, ?_, g7⟩
  · obtain ⟨a1, a2⟩ := g3 q hq
    exact ⟨(hX.2.1 q a2 a1).1, Nat.lt_of_lt_of_le a2 hX.2.2⟩
  · obtain ⟨a1, a2⟩ := g3 q (Or.inr (jl_in e))
    rw [(hX.2.1 q a2 a1).2]
    exact g4 q c e
  · obtain ⟨a1, a2⟩ := g3 b (Or.inl rfl)
    rw [(hX.2.1 b a2 a1).2]
    exact g6
theorem jl_sm (hS : jl_S0 b N xs x m b0 s0 ρ I A L h) : ∀ a r, ρ a = some r → (jm_H m I' A' L' h.1 h.2).1 a = h.1 a := fun a r e => jl_out (fun hq => by
  rw [(hS.2.2.1 a (Or.inr hq)).1] at e
  cases e)
/-- the reference has moved -/
theorem jl_r (hS : jl_S0 b N xs x m b0 s0 ρ I A L h) (hT : js_T I' A') : jl_S0 b N xs x m b0 s0 ρ I' A' L' (jm_H m I' A' L' h.1 h.2) := by
  have hs := jl_sm (I' := I') (A' := A') (L' := L') hS
  obtain ⟨g1, g2, g3, g4, g5, g6, g7⟩ := hS
  exact ⟨jl_I hs g1 (Nat.le_refl _) (Nat.le_refl _) (Nat.le_refl _), jl_Ak hs g2, g3, fun q c e => jl_inn e, hT, (jl_out g7).trans g6, g7⟩
/-- what the law needs between two calls -/
def jl_M (b N : Nat) (xs : Nat → Int32) (m : Nat) (h : jv_H) : Prop := (∀ i, i < N → N < 2 ^ 31 → jv_al h b .int (nI i) = some (.int (xs i))) ∧ jv_cl h m = some 0
theorem jl_M_of (hS : jl_S0 b N xs x m b0 s0 ρ I A L h) : jl_M b N xs m h := by
  obtain ⟨g1, g2, g3, g4, g5, g6, g7⟩ := hS
  refine ⟨fun i hi hN => jv_al_of (f := fun j => .int (xs j)) g6 (by decide) hi hN, ?_⟩
  have : h.1 m = some (.inl (0, jm_fs m I)) := g4 m _ (by
    unfold jm_in
    rw [if_neg (by omega), Nat.sub_self]
    rfl)
  unfold jv_cl
  rw [this]
theorem jl_cx (hS : jl_S0 b N xs x m b0 s0 ρ I A L h) : jv_cl h x = some 6 := by
  obtain ⟨d, c, g1, g2, g3⟩ := hS.1.1 x 0 hS.1.2.1
  cases g1
  rcases c with ⟨ci, fs⟩ | ⟨kd, n, f⟩
  · obtain ⟨rfl, _⟩ := g3
    unfold jv_cl
    rw [g2]
  · exact g3.elim
theorem jl_lnb (hS : jl_S0 b N xs x m b0 s0 ρ I A L h) : jv_ln h b = some N := by
  unfold jv_ln
  rw [hS.2.2.2.2.2.1]
/-- how many jobs the class has taken -/
theorem jl_taken (hS : jl_S0 b N xs x m b0 s0 ρ I A L h) : ∃ n, n ≤ 12 ∧ jv_gf h x 6 4 = some (.int (nI n)) ∧ ((∃ a, ρ a = some 4) → 1 ≤ n) := by
  obtain ⟨hO, hx, hn, n, js, c, hJ, r1, r2⟩ := hS.1
  obtain ⟨g1, g2, g3, g4, g5, g6, g7⟩ := hJ
  refine ⟨n, g1, g2, fun ⟨a, ha⟩ => ?_⟩
  obtain ⟨i, hi, _⟩ := g5 a ha
  omega
/-- the class's tray -/
theorem jl_tray (hS : jl_S0 b N xs x m b0 s0 ρ I A L h) : ∃ w, w ≤ 1000 ∧ jo_tr h x w := by
  obtain ⟨hO, hx, _⟩ := hS.1
  obtain ⟨tr, e, ht⟩ := jg_ref (k := 0) hO hx rfl rfl
  obtain ⟨v, e2, hv⟩ := jh_get (k := 2) hO ht rfl rfl
  obtain ⟨y, rfl, hy⟩ := hv
  obtain ⟨w, hw, rfl⟩ := jr_nat (n := 1000) hy
  exact ⟨w, hw, tr, e, e2⟩
end JW
