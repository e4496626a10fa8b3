/-! the picture, once more; a victim -/
section JS2
variable {d m : Nat} {I : Nat → Int32} {A : Nat → Nat → Int32} {L : Nat → Nat → Int64} {rest : Nat → Option jv_C} {z : Nat × Nat} {n J : Nat} {F S : Nat → Option Nat} {E : Nat → Bool} {q : List (Bool × Nat)} {w : Option (Bool × Nat × Nat)}
/-- what stays true, with its picture -/
def js_X (I : Nat → Int32) (A : Nat → Nat → Int32) (n J : Nat) (F S : Nat → Option Nat) (E : Nat → Bool) (q : List (Bool × Nat)) (w : Option (Bool × Nat × Nat)) : Prop := jr_B I A ∧ js_R I A n J F S E q w ∧ jz_P n J F S E q w ∧ js_W A F q w
theorem js_X_T (h : js_X I A n J F S E q w) : js_T I A := ⟨h.1, n, J, F, S, E, q, w, h.2.1, h.2.2.1, h.2.2.2⟩
theorem js_T_X (h : js_T I A) : ∃ n J F S E q w, js_X I A n J F S E q w := by
  obtain ⟨hB, n, J, F, S, E, q, w, h1, h2, h3⟩ := h
  exact ⟨n, J, F, S, E, q, w, hB, h1, h2, h3⟩
theorem js_X_K {I' : Nat → Int32} {A' : Nat → Nat → Int32} (h : js_X I A n J F S E q w) (K : jr_K I A I' A') : js_X I' A' n J F S E q w := ⟨K.1, js_K h.2.1 K, h.2.2.1, js_KW h.2.2.2 K⟩
theorem js_app {α : Type} {q : List α} {x y : α} {i : Nat} (e : (q ++ [x])[i]? = some y) : (i = q.length ∧ y = x) ∨ (i < q.length ∧ q[i]? = some y) := by
  by_cases h : i < q.length
  · rw [List.getElem?_append_left h] at e
    exact Or.inr ⟨h, e⟩
  · rw [List.getElem?_append_right (by omega)] at e
    by_cases h2 : i - q.length = 0
    · rw [h2] at e
      simp at e
      exact Or.inl ⟨by omega, e.symm⟩
    · obtain ⟨t, ht⟩ := Nat.exists_eq_succ_of_ne_zero h2
      rw [ht] at e
      simp at e
theorem js_lk_app {b : Bool} {f g : Nat} : jz_lk (q ++ [(b, f)]) w g ↔ (g = f ∨ jz_lk q w g) := by
  unfold jz_lk
  rw [List.map_append, List.mem_append]
  constructor
  · rintro ((u | u) | u)
    · exact Or.inr (Or.inl u)
    · simp at u
      exact Or.inl u
    · exact Or.inr (Or.inr u)
  · rintro (u | u | u)
    · exact Or.inl (Or.inr (by simp [u]))
    · exact Or.inl (Or.inl u)
    · exact Or.inr u
theorem js_B_ask {c f : Nat} {wh : Int32} (hf : f < 17) (hB : jr_B I A) : jr_B I (jq_ask A c wh f) := jr_bA (jr_bA (jr_bA hB (js_ub hB (fun b hb => by cases hb; exact ⟨by decide, by decide⟩))) (js_ub hB (fun b hb => by cases hb))) (js_ub hB (fun b hb => by cases hb; exact jr_nb (lo := 0) (hi := 16) (by omega) (by omega) (by decide)))
theorem js_ask26 {c f g : Nat} {wh : Int32} : jq_ask A c wh f 26 g = if g = f then nI 1 else A 26 g := rfl
theorem js_ask29 {c f i : Nat} {wh : Int32} : jq_ask A c wh f 29 i = if i = c then wh else A 29 i := rfl
theorem js_ask30 {c f i : Nat} {wh : Int32} : jq_ask A c wh f 30 i = if i = c then nI f else A 30 i := rfl
/-- the rows of a transfer that is asked for -/
theorem js_asked {b : Bool} {f i : Nat} {x : Bool} {g : Nat} {c : Nat} (hc : c = q.length) (h11 : ∀ i b f, q[i]? = some (b, f) → A 29 i = js_w b ∧ A 30 i = nI f) (e : (q ++ [(b, f)])[i]? = some (x, g)) : jq_ask A c (js_w b) f 29 i = js_w x ∧ jq_ask A c (js_w b) f 30 i = nI g := by
  rw [js_ask29, js_ask30]
  rcases js_app e with ⟨h, u⟩ | ⟨h, u⟩
  · cases u
    rw [if_pos (by omega), if_pos (by omega)]
    exact ⟨rfl, rfl⟩
  · rw [if_neg (by omega), if_neg (by omega)]
    exact h11 i x g u
theorem js_lk26 {c f g : Nat} {wh : Int32} {b : Bool} (hg : g < 17) (h9 : ∀ f, f < 17 → (jz_lk q w f → A 26 f = nI 1) ∧ (¬ jz_lk q w f → A 26 f = nI 0)) : (jz_lk (q ++ [(b, f)]) w g → jq_ask A c wh f 26 g = nI 1) ∧ (¬ jz_lk (q ++ [(b, f)]) w g → jq_ask A c wh f 26 g = nI 0) := by
  rw [js_ask26, js_lk_app]
  by_cases y : g = f
  · rw [if_pos y]
    exact ⟨fun _ => rfl, fun u => absurd (Or.inl y) u⟩
  · rw [if_neg y]
    refine ⟨fun u => (h9 g hg).1 ?_, fun u => (h9 g hg).2 (fun v => u (Or.inr v))⟩
    rcases u with u | u
    · exact absurd u y
    · exact u
theorem js_bI31 {c : Nat} (hB : jr_B I A) (hc : c ≤ 18) : jr_B (upd I 31 (nI c)) A := jr_bI hB (fun b hb => by cases hb; exact jr_nb (lo := 0) (hi := 18) (by omega) hc (by decide))
theorem js_choose (hT : js_T I A) : ∃ I' A', jv_run (d + 4) 24 [.ref m] (jm_H m I A L rest z) = some (none, jm_H m I' A' L rest z) ∧ js_T I' A' ∧ I' 5 = I 5 := by
  obtain ⟨hB, n, J, F, S, E, q, w, hR, hP, hW⟩ := hT
  have hR' := hR
  obtain ⟨h1, h2, h3, h4, h5, h6, h7, h8, h9, h10, h11, h12, h13, h14, h15⟩ := hR
  have hlen := jz_len hP
  have hk768 : ∀ f k, F f = some k → k < 768 := fun f k e => by have := (hP.1 f k e).2; omega
  refine ⟨_, _, jx_choose (FR := F) (n := n) (c := q.length) ⟨by omega, h3⟩ h1 (by omega) h10 (fun f hf => ⟨h6 f (by omega), hk768 f⟩), ?_⟩
  have key : ∀ f, jq_vic A n F = some f → f < n ∧ jq_go A n F f = true := by
    intro f hv
    unfold jq_vic at hv
    cases v1 : jq_fp (jq_c1 A n F) 0 n with
    | some g =>
      rw [v1] at hv
      cases hv
      obtain ⟨_, a2, a3⟩ := jq_fp_some v1
      unfold jq_c1 at a3
      rw [Bool.and_eq_true] at a3
      exact ⟨by omega, a3.1⟩
    | none =>
      rw [v1] at hv
      cases v2 : jq_mx (jq_c2 A n F) (fun f => A 25 f - A 24 f) 0 n none with
      | some g =>
        rw [v2] at hv
        cases hv
        refine jq_mx_ok (fun f => f < n ∧ jq_go A n F f = true) (fun q hq => by cases hq) (fun q _ hq hp => ?_) v2
        unfold jq_c2 at hp
        rw [Bool.and_eq_true] at hp
        exact ⟨by omega, hp.1⟩
      | none =>
        rw [v2] at hv
        exact jq_mx_ok (fun f => f < n ∧ jq_go A n F f = true) (fun q hq => by cases hq) (fun q _ hq hp => ⟨by omega, hp⟩) hv
  cases hv : jq_vic A n F with
  | none => exact ⟨⟨hB, n, J, F, S, E, q, w, hR', hP, hW⟩, rfl⟩
  | some f =>
    obtain ⟨hf, hg⟩ := key f hv
    cases hF : F f with
    | none =>
      unfold jq_go at hg
      rw [hF] at hg
      cases hg
    | some k =>
      unfold jq_go at hg
      simp only [hF, Bool.and_eq_true, decide_eq_true_eq] at hg
      have hl : ¬ jz_lk q w f := fun x => by
        have := (h9 f (by omega)).1 x
        rw [hg.1] at this
        exact absurd this (by decide)
      simp only [jq_chs, hF]
      have hP2 := jz_ask_w hP hF hl
      have hlen2 := jz_len hP2
      rw [List.length_append] at hlen2
      have hB1 : jr_B I (va_up A 21 (upd (A 21) k (I 42))) := jr_bA hB (js_ub hB (fun b hb => by cases hb))
      refine ⟨⟨js_bI31 (js_B_ask (by omega) hB1) (by simp at hlen2; omega), n, J, F, S, E, q ++ [(true, f)], w, ⟨h1, h2, h3, h4, h5, h6, h7, h8, fun g hg => js_lk26 hg h9, ?_, fun i b g e => js_asked (b := true) rfl h11 e, h12, h13, h14, h15⟩, hP2, fun g k' hp e => hW g k' ?_ e⟩, rfl⟩
      · show nI (q.length + 1) = _
        rw [List.length_append]
        rfl
      · rcases hp with u | u
        · rcases List.mem_append.mp u with u | u
          · exact Or.inl u
          · simp at u
        · exact Or.inr u
end JS2
