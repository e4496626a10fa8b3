/-! a new machine -/
section JG
variable {d x y : Nat} {f : Nat → Option jv_C}
def jo_ρ (b : Nat) : jk_R := fun q => if q < b then none else ([0, 1, 6, 7, 2, 8, 3, 9, 10, 11] : List Nat)[q - b]?
theorem jo_ρ_at {b k r : Nat} (hk : ([0, 1, 6, 7, 2, 8, 3, 9, 10, 11] : List Nat)[k]? = some r) : jo_ρ b (b + k) = some r := by
  unfold jo_ρ
  rw [if_neg (by omega), Nat.add_sub_cancel_left, hk]
theorem jo_ρ_inv {b q r : Nat} (e : jo_ρ b q = some r) : ∃ k, k < 10 ∧ q = b + k ∧ ([0, 1, 6, 7, 2, 8, 3, 9, 10, 11] : List Nat)[k]? = some r := by
  unfold jo_ρ at e
  split at e
  · cases e
  · have hl := (List.getElem?_eq_some_iff.mp e).1
    simp at hl
    exact ⟨q - b, by omega, by omega, e⟩
theorem jo_ρ_none {b q : Nat} (h : q < b ∨ b + 10 ≤ q) : jo_ρ b q = none := by
  unfold jo_ρ
  rcases h with h | h
  · rw [if_pos h]
  · rw [if_neg (by omega)]
    exact List.getElem?_eq_none (by simp; omega)
theorem jo_init : jg_I 0 (x + 10) y (jo_ρ x) (jv_U f x (jc_mach x) y) x ∧ jg_A (jo_ρ x) (jv_U f x (jc_mach x) y) ∧ jo_0 (jv_U f x (jc_mach x) y) x 0 := by
  have hO : jk_Ok jc_RT (jo_ρ x) (jv_U f x (jc_mach x) y) := by
    intro a r e
    obtain ⟨k, hk, rfl, q⟩ := jo_ρ_inv e
    have i01 : jk_V (jo_ρ x) (.inl (0, 1)) (.int (nI 0)) := ⟨_, rfl, by decide, by decide⟩
    rcases k with _ | _ | _ | _ | _ | _ | _ | _ | _ | _ | k
    · cases q
      exact ⟨_, _, rfl, jv_ups_at (k := 0) rfl, rfl, Or.inr ⟨_, rfl, jo_ρ_at (k := 1) rfl⟩, Or.inr ⟨_, rfl, jo_ρ_at (k := 4) rfl⟩, Or.inr ⟨_, rfl, jo_ρ_at (k := 6) rfl⟩, Or.inr ⟨_, rfl, jo_ρ_at (k := 9) rfl⟩, ⟨_, rfl, by decide, by decide⟩, jk_V_top, jk_V_top, jk_V_top, jk_V_top, jk_V_top, jk_V_top, jk_V_top, True.intro⟩
    · cases q
      exact ⟨_, _, rfl, jv_ups_at (k := 1) rfl, rfl, Or.inr ⟨_, rfl, jo_ρ_at (k := 2) rfl⟩, Or.inr ⟨_, rfl, jo_ρ_at (k := 3) rfl⟩, ⟨_, rfl, by decide, by decide⟩, ⟨_, rfl, by decide, by decide⟩, True.intro⟩
    · cases q
      exact ⟨_, _, rfl, jv_ups_at (k := 2) rfl, rfl, Nat.le_refl _, by decide, fun i => ⟨_, rfl⟩⟩
    · cases q
      exact ⟨_, _, rfl, jv_ups_at (k := 3) rfl, rfl, Nat.le_refl _, by decide, fun i => jk_V_top⟩
    · cases q
      exact ⟨_, _, rfl, jv_ups_at (k := 4) rfl, rfl, Or.inr ⟨_, rfl, jo_ρ_at (k := 5) rfl⟩, ⟨_, rfl, by decide, by decide⟩, jk_V_top, jk_V_top, True.intro⟩
    · cases q
      exact ⟨_, _, rfl, jv_ups_at (k := 5) rfl, rfl, Nat.le_refl _, by decide, fun i => Or.inl ⟨rfl, rfl⟩⟩
    · cases q
      exact ⟨_, _, rfl, jv_ups_at (k := 6) rfl, rfl, Or.inr ⟨_, rfl, jo_ρ_at (k := 7) rfl⟩, Or.inr ⟨_, rfl, jo_ρ_at (k := 8) rfl⟩, ⟨_, rfl, by decide, by decide⟩, Or.inl ⟨rfl, rfl⟩, jk_V_top, i01, jk_V_top, jk_V_top, True.intro⟩
    · cases q
      exact ⟨_, _, rfl, jv_ups_at (k := 7) rfl, rfl, Nat.le_refl _, by decide, fun i => Or.inl ⟨rfl, rfl⟩⟩
    · cases q
      exact ⟨_, _, rfl, jv_ups_at (k := 8) rfl, rfl, Nat.le_refl _, by decide, fun i => Or.inl ⟨rfl, rfl⟩⟩
    · cases q
      exact ⟨_, _, rfl, jv_ups_at (k := 9) rfl, rfl, Nat.le_refl _, by decide, fun i => Or.inl ⟨rfl, rfl⟩⟩
    · omega
  have no4 : ∀ a, ¬ jo_ρ x a = some 4 := fun a e => by
    obtain ⟨k, hk, rfl, q⟩ := jo_ρ_inv e
    rcases k with _ | _ | _ | _ | _ | _ | _ | _ | _ | _ | k
    all_goals first | (cases q; done) | omega
  have g : ∀ k v, ([.ref (x + 1), .ref (x + 4), .ref (x + 6), .ref (x + 9), .int (nI 0), .int (nI 0), .int (nI 0), .int (-1), .int (nI 0), .int (nI 0), .int (nI 0), .int (nI 0)] : List Value)[k]? = some v → jv_gf (jv_U f x (jc_mach x) y) x 6 k = some v := fun k v e => ju_gf (k := 0) rfl e
  refine ⟨⟨hO, jo_ρ_at (k := 0) rfl, fun q hq => jo_ρ_none (Or.inr hq), 0, fun _ => 0, fun _ => 0, ⟨by decide, g 4 _ rfl, fun i hi => by omega, fun i j hi => by omega, fun a e => absurd e (no4 a), fun a b p e => absurd e (no4 a), fun a k b e => absurd e (no4 a)⟩, Nat.le_refl _, Nat.le_refl _⟩, fun a e => absurd e (no4 a), by decide, g 4 _ rfl, g 5 _ rfl, g 6 _ rfl, x + 1, g 0 _ rfl, ju_gf (k := 1) rfl rfl⟩
end JG
