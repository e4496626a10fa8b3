/-! the reference's rows and the plain picture of its blocks -/
section JS2
variable {d m : Nat} {I : Nat → Int32} {A : Nat → Nat → Int32} {L : Nat → Nat → Int64} {rest : Nat → Option jv_C} {z : Nat × Nat} {n J : Nat} {F S : Nat → Option Nat} {E : Nat → Bool} {q : List (Bool × Nat)} {w : Option (Bool × Nat × Nat)}
def js_w (b : Bool) : Int32 := if b then nI 2 else nI 1
/-- the rows show the picture -/
def js_R (I : Nat → Int32) (A : Nat → Nat → Int32) (n J : Nat) (F S : Nat → Option Nat) (E : Nat → Bool) (q : List (Bool × Nat)) (w : Option (Bool × Nat × Nat)) : Prop :=
  I 0 = nI n ∧ 3 ≤ n ∧ n ≤ 17 ∧ I 5 = nI J ∧ J ≤ 12 ∧
  (∀ f, f < 17 → A 23 f = jq_o (F f)) ∧ (∀ s, s < 64 → A 28 s = jq_o (S s)) ∧ (∀ k, k < 768 → A 20 k = jq_b (E k)) ∧
  (∀ f, f < 17 → (jz_lk q w f → A 26 f = nI 1) ∧ (¬ jz_lk q w f → A 26 f = nI 0)) ∧
  I 31 = nI q.length ∧ (∀ i b f, q[i]? = some (b, f) → A 29 i = js_w b ∧ A 30 i = nI f) ∧
  (w = none → I 32 = nI 0) ∧ (∀ b f s, w = some (b, f, s) → I 32 = js_w b ∧ I 33 = nI f ∧ I 34 = nI s) ∧
  I 22 = nI (jz_cnt E 768) ∧ (I 37 = -1 ∨ ∃ j, j < J ∧ I 37 = nI j)
/-- who has a read before him waits for it -/
def js_W (A : Nat → Nat → Int32) (F : Nat → Option Nat) (q : List (Bool × Nat)) (w : Option (Bool × Nat × Nat)) : Prop :=
  ∀ f k, ((false, f) ∈ q ∨ ∃ s, w = some (false, f, s)) → F f = some k → A 18 (k / 64) = nI 1 ∧ A 19 (k / 64) = nI k
/-- all that stays true of the reference -/
def js_T (I : Nat → Int32) (A : Nat → Nat → Int32) : Prop := jr_B I A ∧ ∃ n J F S E q w, js_R I A n J F S E q w ∧ jz_P n J F S E q w ∧ js_W A F q w
/-- a leaf keeps it -/
theorem js_K {I' : Nat → Int32} {A' : Nat → Nat → Int32} (h : js_R I A n J F S E q w) (K : jr_K I A I' A') : js_R I' A' n J F S E q w := by
  obtain ⟨h1, h2, h3, h4, h5, h6, h7, h8, h9, h10, h11, h12, h13, h14, h15⟩ := h
  obtain ⟨_, kI, kA⟩ := K
  have i0 := kI 0 (by decide)
  have i5 := kI 5 (by decide)
  have i22 := kI 22 (by decide)
  have i31 := kI 31 (by decide)
  have i32 := kI 32 (by decide)
  have i33 := kI 33 (by decide)
  have i34 := kI 34 (by decide)
  have i37 := kI 37 (by decide)
  exact ⟨i0.trans h1, h2, h3, i5.trans h4, h5, fun f hf => (kA 23 (by decide) f).trans (h6 f hf), fun s hs => (kA 28 (by decide) s).trans (h7 s hs), fun k hk => (kA 20 (by decide) k).trans (h8 k hk), fun f hf => ⟨fun z => (kA 26 (by decide) f).trans ((h9 f hf).1 z), fun z => (kA 26 (by decide) f).trans ((h9 f hf).2 z)⟩, i31.trans h10, fun i b f e => ⟨(kA 29 (by decide) i).trans (h11 i b f e).1, (kA 30 (by decide) i).trans (h11 i b f e).2⟩, fun e => i32.trans (h12 e), fun b f s e => ⟨i32.trans (h13 b f s e).1, i33.trans (h13 b f s e).2.1, i34.trans (h13 b f s e).2.2⟩, i22.trans h14, by rw [i37]; exact h15⟩
theorem js_KW {I' : Nat → Int32} {A' : Nat → Nat → Int32} (h : js_W A F q w) (K : jr_K I A I' A') : js_W A' F q w := fun f k hp e => ⟨(K.2.2 18 (by decide) _).trans (h f k hp e).1, (K.2.2 19 (by decide) _).trans (h f k hp e).2⟩
theorem js_KT {I' : Nat → Int32} {A' : Nat → Nat → Int32} (h : js_T I A) (K : jr_K I A I' A') : js_T I' A' := by
  obtain ⟨_, n, J, F, S, E, q, w, hR, hP, hW⟩ := h
  exact ⟨K.1, n, J, F, S, E, q, w, js_K hR K, hP, js_KW hW K⟩
/-! the first place that holds a block -/
theorem js_o_inj {a b : Option Nat} (ha : ∀ k, a = some k → k < 768) (hb : ∀ k, b = some k → k < 768) (e : jq_o a = jq_o b) : a = b := by
  cases a with
  | none =>
    cases b with
    | none => rfl
    | some y =>
      exfalso
      have : (-1 : Int32) = nI y := e
      have h2 := congrArg Int32.toInt this
      rw [nI_toInt (by have := hb y rfl; omega)] at h2
      have : (-1 : Int32).toInt = -1 := by decide
      omega
  | some x =>
    cases b with
    | none =>
      exfalso
      have : nI x = (-1 : Int32) := e
      have h2 := congrArg Int32.toInt this
      rw [nI_toInt (by have := ha x rfl; omega)] at h2
      have : (-1 : Int32).toInt = -1 := by decide
      omega
    | some y =>
      have : nI x = nI y := e
      rw [nI_eq (by have := ha x rfl; omega) (by have := hb y rfl; omega)] at this
      rw [this]
theorem js_fi {f : Nat → Int32} {G : Nat → Option Nat} {o : Option Nat} {N : Nat} (hf : ∀ i, i < N → f i = jq_o (G i)) (hG : ∀ i k, G i = some k → k < 768) (ho : ∀ k, o = some k → k < 768) : ∀ (t i : Nat), i + t = N → match jq_fi f (jq_o o) i t with
    | some p => i ≤ p ∧ p < N ∧ G p = o ∧ ∀ p', i ≤ p' → p' < p → ¬ G p' = o
    | none => ∀ p, i ≤ p → p < N → ¬ G p = o
  | 0, i, hi => by
    simp only [jq_fi]
    intro p h1 h2
    omega
  | t + 1, i, hi => by
    have ih := js_fi hf hG ho t (i + 1) (by omega)
    unfold jq_fi
    by_cases e : f i = jq_o o
    · rw [if_pos e]
      rw [hf i (by omega)] at e
      exact ⟨Nat.le_refl _, by omega, js_o_inj (hG i) ho e, fun p' h1 h2 => by omega⟩
    · rw [if_neg e]
      have hne : ¬ G i = o := fun q => e (by rw [hf i (by omega), q])
      split at ih
      · obtain ⟨a1, a2, a3, a4⟩ := ih
        refine ⟨by omega, a2, a3, fun p' h1 h2 => ?_⟩
        by_cases x : p' = i
        · subst x; exact hne
        · exact a4 p' (by omega) h2
      · intro p h1 h2
        by_cases x : p = i
        · subst x; exact hne
        · exact ih p (by omega) h2
end JS2
