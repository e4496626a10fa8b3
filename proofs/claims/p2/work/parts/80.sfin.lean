/-! a transfer's end, a victim -/
section JS2
variable {d m : Nat} {I : Nat → Int32} {A : Nat → Nat → Int32} {L : Nat → Nat → Int64} {rest : Nat → Option jv_C} {z : Nat × Nat} {n J : Nat} {F S : Nat → Option Nat} {E : Nat → Bool} {q : List (Bool × Nat)} {w : Option (Bool × Nat × Nat)}
theorem js_ub {k f : Nat} {v : Int32} (hB : jr_B I A) (hv : ∀ b, jr_rb k = some b → b.1 ≤ v.toInt ∧ v.toInt ≤ b.2) : ∀ b, jr_rb k = some b → ∀ i, b.1 ≤ (upd (A k) f v i).toInt ∧ (upd (A k) f v i).toInt ≤ b.2 := fun b hb i => by
  unfold upd
  split
  · exact hv b hb
  · exact hB.2 k b hb i
theorem js_m1 : (-1 : Int32).toInt = -1 := by decide
theorem js_B_leave {f : Nat} (hB : jr_B I A) : jr_B I (jq_leave A f) := jr_bA (jr_bA (jr_bA (jr_bA (jr_bA hB (js_ub hB (fun b hb => by cases hb; rw [js_m1]; exact ⟨by decide, by decide⟩))) (js_ub hB (fun b hb => by cases hb; exact ⟨by decide, by decide⟩))) (js_ub hB (fun b hb => by cases hb; exact ⟨by decide, by decide⟩))) (js_ub hB (fun b hb => by cases hb))) (js_ub hB (fun b hb => by cases hb))
theorem js_leave_o {f k : Nat} (hk : k = 8 ∨ k = 18 ∨ k = 19 ∨ k = 20 ∨ k = 21 ∨ k = 28 ∨ k = 29 ∨ k = 30) : jq_leave A f k = A k := by
  rcases hk with rfl | rfl | rfl | rfl | rfl | rfl | rfl | rfl <;> rfl
theorem js_leave23 {f g : Nat} : jq_leave A f 23 g = if g = f then -1 else A 23 g := rfl
theorem js_leave26 {f g : Nat} : jq_leave A f 26 g = if g = f then nI 0 else A 26 g := rfl
theorem js_finish (hT : js_T I A) (hw : ¬ I 32 = nI 0) : ∃ I' A', jv_run (d + 2) 21 [.ref m] (jm_H m I A L rest z) = some (none, jm_H m I' A' L rest z) ∧ js_T I' A' ∧ I' 5 = I 5 := by
  obtain ⟨hB, n, J, F, S, E, q, w, hR, hP, hW⟩ := hT
  obtain ⟨h1, h2, h3, h4, h5, h6, h7, h8, h9, h10, h11, h12, h13, h14, h15⟩ := hR
  cases w with
  | none => exact absurd (h12 rfl) hw
  | some b =>
    obtain ⟨b, f, s⟩ := b
    obtain ⟨g1, g2, g3⟩ := h13 b f s rfl
    have hP' := hP
    obtain ⟨p1, p2, p3, p4, p5, p6, p7, p8, p9, p10⟩ := hP'
    obtain ⟨a1, a2, k, a3, a4, a5⟩ := p8 b f s rfl
    have hf := (p1 f k a3).1
    have hk : k < 768 := by have := (p1 f k a3).2; omega
    have e23 : A 23 f = nI k := by rw [h6 f (by omega), a3]; rfl
    refine ⟨_, _, jx_finish (by omega) hk a2 g2 g3 e23, ?_⟩
    cases b with
    | true =>
      have e32 : I 32 = nI 2 := g1
      unfold jq_fin
      rw [if_pos e32]
      have hP1 := jz_fin_w hP
      have lk' : ∀ g, ¬ g = f → (jz_lk q none g ↔ jz_lk q (some (true, f, s)) g) := fun g hg => by
        unfold jz_lk
        constructor
        · rintro (y | ⟨_, _, y⟩)
          · exact Or.inl y
          · cases y
        · rintro (y | ⟨_, _, y⟩)
          · exact Or.inl y
          · cases y; exact absurd rfl hg
      have lkf : ¬ jz_lk q none f := by
        rintro (y | ⟨_, _, y⟩)
        · exact a1 y
        · cases y
      by_cases h8' : A 8 (k / 64) = 0
      · rw [if_pos h8']
        refine ⟨⟨jr_bI (js_B_leave hB) (fun b hb => by cases hb), n, J, va_up F f none, S, E, q, none, ⟨h1, h2, h3, h4, h5, fun g hg => ?_, h7, h8, fun g hg => ?_, h10, h11, fun _ => rfl, fun b f s e => (by cases e), h14, h15⟩, hP1, fun g k' hp e => ?_⟩, rfl⟩
        · show jq_leave A f 23 g = _
          rw [js_leave23]
          by_cases y : g = f
          · rw [if_pos y, y, jz_us]; rfl
          · rw [if_neg y, jz_un y]; exact h6 g hg
        · show (jz_lk q none g → jq_leave A f 26 g = _) ∧ (¬ jz_lk q none g → jq_leave A f 26 g = _)
          rw [js_leave26]
          by_cases y : g = f
          · subst y
            rw [if_pos rfl]
            exact ⟨fun u => absurd u lkf, fun _ => rfl⟩
          · rw [if_neg y]
            exact ⟨fun u => (h9 g hg).1 ((lk' g y).mp u), fun u => (h9 g hg).2 (fun v => u ((lk' g y).mpr v))⟩
        · have y : ¬ g = f := fun y => by rw [y, jz_us] at e; cases e
          rw [jz_un y] at e
          refine hW g k' ?_ e
          rcases hp with u | ⟨_, u⟩
          · exact Or.inl u
          · cases u
      · rw [if_neg h8']
        have hS := a4 rfl
        have nf : ∀ g, ¬ va_up F f none g = some k := fun g e => by
          by_cases y : g = f
          · rw [y, jz_us] at e; cases e
          · rw [jz_un y] at e; exact y (p3 g f k e a3)
        have hP2 := jz_van_s hk hP1 hS nf
        have hE : E k = true := (p5 k).mpr (Or.inl ⟨f, a3⟩)
        have hcn := jz_cnt_del (E := E) (N := 768) hk hE
        refine ⟨⟨jr_bI (jr_bI (jr_bA (jr_bA (js_B_leave hB) (js_ub (js_B_leave hB) (fun b hb => by cases hb; rw [js_m1]; exact ⟨by decide, by decide⟩))) (js_ub (js_B_leave hB) (fun b hb => by cases hb; exact ⟨by decide, by decide⟩))) (fun b hb => by cases hb)) (fun b hb => by cases hb), n, J, va_up F f none, va_up S s none, va_up E k false, q, none, ⟨h1, h2, h3, h4, h5, fun g hg => ?_, fun t ht => ?_, fun k' hk' => ?_, fun g hg => ?_, h10, h11, fun _ => rfl, fun b f s e => (by cases e), ?_, h15⟩, hP2, fun g k' hp e => ?_⟩, rfl⟩
        · show jq_leave A f 23 g = _
          rw [js_leave23]
          by_cases y : g = f
          · rw [if_pos y, y, jz_us]; rfl
          · rw [if_neg y, jz_un y]; exact h6 g hg
        · show (if t = s then (-1 : Int32) else A 28 t) = _
          by_cases y : t = s
          · rw [if_pos y, y, jz_us]; rfl
          · rw [if_neg y, jz_un y]; exact h7 t ht
        · show (if k' = k then nI 0 else A 20 k') = _
          by_cases y : k' = k
          · rw [if_pos y, y, jz_us]; rfl
          · rw [if_neg y, jz_un y]; exact h8 k' hk'
        · show (jz_lk q none g → jq_leave A f 26 g = _) ∧ (¬ jz_lk q none g → jq_leave A f 26 g = _)
          rw [js_leave26]
          by_cases y : g = f
          · subst y
            rw [if_pos rfl]
            exact ⟨fun u => absurd u lkf, fun _ => rfl⟩
          · rw [if_neg y]
            exact ⟨fun u => (h9 g hg).1 ((lk' g y).mp u), fun u => (h9 g hg).2 (fun v => u ((lk' g y).mpr v))⟩
        · show I 22 - nI 1 = _
          rw [h14, pk_sub (by omega)]
          congr 1
          omega
        · have y : ¬ g = f := fun y => by rw [y, jz_us] at e; cases e
          rw [jz_un y] at e
          refine hW g k' ?_ e
          rcases hp with u | ⟨_, u⟩
          · exact Or.inl u
          · cases u
    | false =>
      have e32 : ¬ I 32 = nI 2 := by
        rw [g1]
        decide
      unfold jq_fin
      rw [if_neg e32]
      have hP1 := jz_fin_r hP
      refine ⟨⟨jr_bI (jr_bA (jr_bA (jr_bA (jr_bA hB (js_ub hB (fun b hb => by cases hb; exact ⟨by decide, by decide⟩))) (js_ub hB (fun b hb => by cases hb; exact ⟨by decide, by decide⟩))) (js_ub hB (fun b hb => by cases hb))) (js_ub hB (fun b hb => by cases hb))) (fun b hb => by cases hb), n, J, F, S, E, q, none, ⟨h1, h2, h3, h4, h5, h6, h7, h8, fun g hg => ?_, h10, h11, fun _ => rfl, fun b f s e => (by cases e), h14, h15⟩, hP1, fun g k' hp e => hW g k' ?_ e⟩, rfl⟩
      · show (jz_lk q none g → (if g = f then nI 0 else A 26 g) = _) ∧ (¬ jz_lk q none g → (if g = f then nI 0 else A 26 g) = _)
        by_cases y : g = f
        · subst y
          rw [if_pos rfl]
          refine ⟨fun u => ?_, fun _ => rfl⟩
          rcases u with u | ⟨_, _, u⟩
          · exact absurd u a1
          · cases u
        · rw [if_neg y]
          refine ⟨fun u => (h9 g hg).1 ?_, fun u => (h9 g hg).2 (fun v => u ?_)⟩
          · rcases u with u | ⟨_, _, u⟩
            · exact Or.inl u
            · cases u
          · rcases v with v | ⟨_, _, v⟩
            · exact Or.inl v
            · cases v; exact absurd rfl y
      · rcases hp with u | ⟨_, u⟩
        · exact Or.inl u
        · cases u
end JS2
