/-! the reference's object with its types, and back (written by wip/gen/rback.py) -/
section JR
variable {m : Nat} {I : Nat → Int32} {A : Nat → Nat → Int32} {L : Nat → Nat → Int64} {rest : Nat → Option jv_C} {z : Nat × Nat} {h' : jv_H}
def jr_ρ (m : Nat) : jk_R := fun q => if q < m then none else if q < m + 27 then some (q - m) else none
theorem jr_ρ_at {k : Nat} (hk : k < 27) : jr_ρ m (m + k) = some k := by
  unfold jr_ρ
  rw [if_neg (by omega), if_pos (by omega), Nat.add_sub_cancel_left]
theorem jr_ρ_inv {a r : Nat} (e : jr_ρ m a = some r) : r < 27 ∧ a = m + r := by
  unfold jr_ρ at e
  split at e
  · cases e
  · split at e
    · cases e
      omega
    · cases e
/-- the bounds of its numbers and rows -/
def jr_ib (k : Nat) : Option (Int × Int) := match k with
  | 0 => some (3, 17)
  | 2 => some (0, 1000)
  | 4 => some (0, 2000)
  | 5 => some (0, 12)
  | 31 => some (0, 18)
  | 33 => some (0, 16)
  | 34 => some ((-1), 63)
  | 37 => some ((-1), 11)
  | _ => none
def jr_rb (k : Nat) : Option (Int × Int) := match k with
  | 14 => some (0, 2000)
  | 15 => some (0, 2000)
  | 17 => some (0, 400)
  | 19 => some (0, 767)
  | 20 => some (0, 1)
  | 23 => some ((-1), 767)
  | 26 => some (0, 1)
  | 27 => some (0, 1)
  | 28 => some ((-1), 767)
  | 30 => some (0, 16)
  | _ => none
def jr_B (I : Nat → Int32) (A : Nat → Nat → Int32) : Prop := (∀ k b, jr_ib k = some b → b.1 ≤ (I k).toInt ∧ (I k).toInt ≤ b.2) ∧ ∀ k b, jr_rb k = some b → ∀ i, b.1 ≤ (A k i).toInt ∧ (A k i).toInt ≤ b.2
theorem jr_ok (hB : jr_B I A) : jk_Ok jr_RT (jr_ρ m) (jm_H m I A L rest z) := by
  intro a r e
  obtain ⟨hr, rfl⟩ := jr_ρ_inv e
  match r, hr with
  | 0, _ => exact ⟨_, _, rfl, jm_cell (j := 0) rfl, rfl, ⟨_, rfl, (hB.1 0 _ rfl).1, (hB.1 0 _ rfl).2⟩, Or.inr ⟨_, rfl, jr_ρ_at (by decide)⟩, ⟨_, rfl, (hB.1 2 _ rfl).1, (hB.1 2 _ rfl).2⟩, Or.inr ⟨_, rfl, jr_ρ_at (by decide)⟩, ⟨_, rfl, (hB.1 4 _ rfl).1, (hB.1 4 _ rfl).2⟩, ⟨_, rfl, (hB.1 5 _ rfl).1, (hB.1 5 _ rfl).2⟩, Or.inr ⟨_, rfl, jr_ρ_at (by decide)⟩, Or.inr ⟨_, rfl, jr_ρ_at (by decide)⟩, Or.inr ⟨_, rfl, jr_ρ_at (by decide)⟩, Or.inr ⟨_, rfl, jr_ρ_at (by decide)⟩, Or.inr ⟨_, rfl, jr_ρ_at (by decide)⟩, Or.inr ⟨_, rfl, jr_ρ_at (by decide)⟩, Or.inr ⟨_, rfl, jr_ρ_at (by decide)⟩, Or.inr ⟨_, rfl, jr_ρ_at (by decide)⟩, Or.inr ⟨_, rfl, jr_ρ_at (by decide)⟩, Or.inr ⟨_, rfl, jr_ρ_at (by decide)⟩, Or.inr ⟨_, rfl, jr_ρ_at (by decide)⟩, Or.inr ⟨_, rfl, jr_ρ_at (by decide)⟩, Or.inr ⟨_, rfl, jr_ρ_at (by decide)⟩, Or.inr ⟨_, rfl, jr_ρ_at (by decide)⟩, Or.inr ⟨_, rfl, jr_ρ_at (by decide)⟩, Or.inr ⟨_, rfl, jr_ρ_at (by decide)⟩, jk_V_top, Or.inr ⟨_, rfl, jr_ρ_at (by decide)⟩, Or.inr ⟨_, rfl, jr_ρ_at (by decide)⟩, Or.inr ⟨_, rfl, jr_ρ_at (by decide)⟩, Or.inr ⟨_, rfl, jr_ρ_at (by decide)⟩, Or.inr ⟨_, rfl, jr_ρ_at (by decide)⟩, Or.inr ⟨_, rfl, jr_ρ_at (by decide)⟩, Or.inr ⟨_, rfl, jr_ρ_at (by decide)⟩, Or.inr ⟨_, rfl, jr_ρ_at (by decide)⟩, ⟨_, rfl, (hB.1 31 _ rfl).1, (hB.1 31 _ rfl).2⟩, jk_V_top, ⟨_, rfl, (hB.1 33 _ rfl).1, (hB.1 33 _ rfl).2⟩, ⟨_, rfl, (hB.1 34 _ rfl).1, (hB.1 34 _ rfl).2⟩, jk_V_top, jk_V_top, ⟨_, rfl, (hB.1 37 _ rfl).1, (hB.1 37 _ rfl).2⟩, jk_V_top, jk_V_top, jk_V_top, jk_V_top, jk_V_top, jk_V_top, True.intro⟩
  | 1, _ => exact ⟨_, _, rfl, jm_cell (j := 1) rfl, rfl, Nat.le_refl _, by decide, fun i => ⟨_, rfl⟩⟩
  | 2, _ => exact ⟨_, _, rfl, jm_cell (j := 2) rfl, rfl, Nat.le_refl _, by decide, fun i => jk_V_top⟩
  | 3, _ => exact ⟨_, _, rfl, jm_cell (j := 3) rfl, rfl, Nat.le_refl _, by decide, fun i => jk_V_top⟩
  | 4, _ => exact ⟨_, _, rfl, jm_cell (j := 4) rfl, rfl, Nat.le_refl _, by decide, fun i => jk_V_top⟩
  | 5, _ => exact ⟨_, _, rfl, jm_cell (j := 5) rfl, rfl, Nat.le_refl _, by decide, fun i => jk_V_top⟩
  | 6, _ => exact ⟨_, _, rfl, jm_cell (j := 6) rfl, rfl, Nat.le_refl _, by decide, fun i => jk_V_top⟩
  | 7, _ => exact ⟨_, _, rfl, jm_cell (j := 7) rfl, rfl, Nat.le_refl _, by decide, fun i => ⟨_, rfl⟩⟩
  | 8, _ => exact ⟨_, _, rfl, jm_cell (j := 8) rfl, rfl, Nat.le_refl _, by decide, fun i => jk_V_top⟩
  | 9, _ => exact ⟨_, _, rfl, jm_cell (j := 9) rfl, rfl, Nat.le_refl _, by decide, fun i => ⟨_, rfl⟩⟩
  | 10, _ => exact ⟨_, _, rfl, jm_cell (j := 10) rfl, rfl, Nat.le_refl _, by decide, fun i => jk_V_top⟩
  | 11, _ => exact ⟨_, _, rfl, jm_cell (j := 11) rfl, rfl, Nat.le_refl _, by decide, fun i => ⟨_, rfl, (hB.2 14 _ rfl i).1, (hB.2 14 _ rfl i).2⟩⟩
  | 12, _ => exact ⟨_, _, rfl, jm_cell (j := 12) rfl, rfl, Nat.le_refl _, by decide, fun i => ⟨_, rfl, (hB.2 15 _ rfl i).1, (hB.2 15 _ rfl i).2⟩⟩
  | 13, _ => exact ⟨_, _, rfl, jm_cell (j := 13) rfl, rfl, Nat.le_refl _, by decide, fun i => jk_V_top⟩
  | 14, _ => exact ⟨_, _, rfl, jm_cell (j := 14) rfl, rfl, Nat.le_refl _, by decide, fun i => ⟨_, rfl, (hB.2 17 _ rfl i).1, (hB.2 17 _ rfl i).2⟩⟩
  | 15, _ => exact ⟨_, _, rfl, jm_cell (j := 15) rfl, rfl, Nat.le_refl _, by decide, fun i => jk_V_top⟩
  | 16, _ => exact ⟨_, _, rfl, jm_cell (j := 16) rfl, rfl, Nat.le_refl _, by decide, fun i => ⟨_, rfl, (hB.2 19 _ rfl i).1, (hB.2 19 _ rfl i).2⟩⟩
  | 17, _ => exact ⟨_, _, rfl, jm_cell (j := 17) rfl, rfl, Nat.le_refl _, by decide, fun i => ⟨_, rfl, (hB.2 20 _ rfl i).1, (hB.2 20 _ rfl i).2⟩⟩
  | 18, _ => exact ⟨_, _, rfl, jm_cell (j := 18) rfl, rfl, Nat.le_refl _, by decide, fun i => jk_V_top⟩
  | 19, _ => exact ⟨_, _, rfl, jm_cell (j := 19) rfl, rfl, Nat.le_refl _, by decide, fun i => ⟨_, rfl, (hB.2 23 _ rfl i).1, (hB.2 23 _ rfl i).2⟩⟩
  | 20, _ => exact ⟨_, _, rfl, jm_cell (j := 20) rfl, rfl, Nat.le_refl _, by decide, fun i => jk_V_top⟩
  | 21, _ => exact ⟨_, _, rfl, jm_cell (j := 21) rfl, rfl, Nat.le_refl _, by decide, fun i => jk_V_top⟩
  | 22, _ => exact ⟨_, _, rfl, jm_cell (j := 22) rfl, rfl, Nat.le_refl _, by decide, fun i => ⟨_, rfl, (hB.2 26 _ rfl i).1, (hB.2 26 _ rfl i).2⟩⟩
  | 23, _ => exact ⟨_, _, rfl, jm_cell (j := 23) rfl, rfl, Nat.le_refl _, by decide, fun i => ⟨_, rfl, (hB.2 27 _ rfl i).1, (hB.2 27 _ rfl i).2⟩⟩
  | 24, _ => exact ⟨_, _, rfl, jm_cell (j := 24) rfl, rfl, Nat.le_refl _, by decide, fun i => ⟨_, rfl, (hB.2 28 _ rfl i).1, (hB.2 28 _ rfl i).2⟩⟩
  | 25, _ => exact ⟨_, _, rfl, jm_cell (j := 25) rfl, rfl, Nat.le_refl _, by decide, fun i => jk_V_top⟩
  | 26, _ => exact ⟨_, _, rfl, jm_cell (j := 26) rfl, rfl, Nat.le_refl _, by decide, fun i => ⟨_, rfl, (hB.2 30 _ rfl i).1, (hB.2 30 _ rfl i).2⟩⟩
  | r + 27, hr => omega
def jr_off (k : Nat) : Nat := match k with
  | 1 => 1
  | 3 => 2
  | 6 => 3
  | 7 => 4
  | 8 => 5
  | 9 => 6
  | 10 => 7
  | 11 => 8
  | 12 => 9
  | 13 => 10
  | 14 => 11
  | 15 => 12
  | 16 => 13
  | 17 => 14
  | 18 => 15
  | 19 => 16
  | 20 => 17
  | 21 => 18
  | 23 => 19
  | 24 => 20
  | 25 => 21
  | 26 => 22
  | 27 => 23
  | 28 => 24
  | 29 => 25
  | 30 => 26
  | _ => 0
def jr_I (h : jv_H) (m k : Nat) : Int32 := match jv_gf h m 0 k with
  | some (.int x) => x
  | _ => 0
def jr_A (h : jv_H) (m k i : Nat) : Int32 := match h.1 (m + jr_off k) with
  | some (.inr (_, _, f)) => (match f i with | .int x => x | _ => 0)
  | _ => 0
def jr_L (h : jv_H) (m k i : Nat) : Int64 := match h.1 (m + jr_off k) with
  | some (.inr (_, _, f)) => (match f i with | .long x => x | _ => 0)
  | _ => 0
def jr_ts : List jk_T := match jr_RT.head? with
  | some (Sum.inl q) => q.2
  | _ => []
theorem jr_gI {k : Nat} {t : jk_T} {b : Int × Int} (hO : jk_Ok jr_RT (jr_ρ m) h') (ht : t = .inl b) (hk : jr_ts[k]? = some t) : jv_gf h' m 0 k = some (.int (jr_I h' m k)) ∧ b.1 ≤ (jr_I h' m k).toInt ∧ (jr_I h' m k).toInt ≤ b.2 := by
  subst ht
  obtain ⟨v, e, hv⟩ := jh_get (RT := jr_RT) (q := 0) (ci := 0) (a := m) (k := k) hO (jr_ρ_at (m := m) (k := 0) (by decide)) (show jr_RT[0]? = some (.inl (0, jr_ts)) from rfl) hk
  obtain ⟨x, rfl, h1, h2⟩ := hv
  have : jr_I h' m k = x := by unfold jr_I; rw [e]
  rw [this]
  exact ⟨e, h1, h2⟩
theorem jr_gR {k q : Nat} (hO : jk_Ok jr_RT (jr_ρ m) h') (hk : jr_ts[k]? = some (.inr (.inr (q, true)))) : jv_gf h' m 0 k = some (.ref (m + q)) := by
  obtain ⟨v, e, hv⟩ := jh_get (RT := jr_RT) (q := 0) (ci := 0) (a := m) (k := k) hO (jr_ρ_at (m := m) (k := 0) (by decide)) (show jr_RT[0]? = some (.inl (0, jr_ts)) from rfl) hk
  obtain ⟨a, rfl, ha⟩ := jh_ref hv
  obtain ⟨_, rfl⟩ := jr_ρ_inv ha
  exact e
theorem jr_rI {j kd n : Nat} {lo hi : Int} {F : Nat → Value} (hO : jk_Ok jr_RT (jr_ρ m) h') (hF : jk_Fr jr_pr (jr_ρ m) (jm_H m I A L rest z) h') (hj : j < 27) (hr : jr_RT[j]? = some (.inr (kd, n, .inl (lo, hi)))) (hc : (jm_H m I A L rest z).1 (m + j) = some (.inr (kd, n, F))) {k : Nat} (hk : jr_off k = j) : h'.1 (m + j) = some (.inr (kd, n, fun i => .int (jr_A h' m k i))) ∧ (∀ i, lo ≤ (jr_A h' m k i).toInt ∧ (jr_A h' m k i).toInt ≤ hi) ∧ (jr_pr j 0 = true → ∀ i, F i = .int (jr_A h' m k i)) := by
  obtain ⟨d, c, g1, g2, g3⟩ := hO (m + j) j (jr_ρ_at hj)
  rw [hr] at g1
  cases g1
  obtain ⟨c', g4, g5⟩ := hF.2.2 (m + j) j _ (jr_ρ_at hj) hc
  rw [g2] at g4
  cases g4
  rcases c with ⟨ci, fs⟩ | ⟨kd', n', f⟩
  · exact g3.elim
  · obtain ⟨rfl, _, _, hf⟩ := g3
    obtain ⟨_, rfl, g6⟩ := g5
    have key : ∀ i, f i = .int (jr_A h' m k i) ∧ lo ≤ (jr_A h' m k i).toInt ∧ (jr_A h' m k i).toInt ≤ hi := fun i => by
      obtain ⟨x, e, h1, h2⟩ := hf i
      have : jr_A h' m k i = x := by
        unfold jr_A
        rw [hk, g2]
        simp only [e]
      rw [this]
      exact ⟨e, h1, h2⟩
    refine ⟨?_, fun i => (key i).2, fun hp i => ?_⟩
    · rw [g2]
      congr 4
      funext i
      exact (key i).1
    · rw [← (key i).1, g6 hp]
theorem jr_rL {j kd n : Nat} {F : Nat → Value} (hO : jk_Ok jr_RT (jr_ρ m) h') (hF : jk_Fr jr_pr (jr_ρ m) (jm_H m I A L rest z) h') (hj : j < 27) (hr : jr_RT[j]? = some (.inr (kd, n, jk_lg))) (hc : (jm_H m I A L rest z).1 (m + j) = some (.inr (kd, n, F))) {k : Nat} (hk : jr_off k = j) : h'.1 (m + j) = some (.inr (kd, n, fun i => .long (jr_L h' m k i))) := by
  obtain ⟨d, c, g1, g2, g3⟩ := hO (m + j) j (jr_ρ_at hj)
  rw [hr] at g1
  cases g1
  obtain ⟨c', g4, g5⟩ := hF.2.2 (m + j) j _ (jr_ρ_at hj) hc
  rw [g2] at g4
  cases g4
  rcases c with ⟨ci, fs⟩ | ⟨kd', n', f⟩
  · exact g3.elim
  · obtain ⟨rfl, _, _, hf⟩ := g3
    obtain ⟨_, rfl, g6⟩ := g5
    rw [g2]
    congr 4
    funext i
    obtain ⟨x, e⟩ := hf i
    have : jr_L h' m k i = x := by
      unfold jr_L
      rw [hk, g2]
      simp only [e]
    rw [this]
    exact e
theorem jr_back (hO : jk_Ok jr_RT (jr_ρ m) h') (hF : jk_Fr jr_pr (jr_ρ m) (jm_H m I A L rest z) h') : ∃ I' A' L', h' = jm_H m I' A' L' rest z ∧ jr_B I' A' ∧ (∀ k, k ∈ [0, 2, 4, 5, 22, 31, 32, 33, 34, 37] → I' k = I k) ∧ ∀ k, k ∈ [6, 8, 9, 14, 18, 19, 20, 21, 23, 26, 28, 29, 30] → ∀ i, A' k i = A k i := by
  have i0 := jr_gI (k := 0) (b := (3, 17)) hO rfl rfl
  have i1 := jr_gR (k := 1) (q := 1) hO rfl
  have i2 := jr_gI (k := 2) (b := (0, 1000)) hO rfl rfl
  have i3 := jr_gR (k := 3) (q := 2) hO rfl
  have i4 := jr_gI (k := 4) (b := (0, 2000)) hO rfl rfl
  have i5 := jr_gI (k := 5) (b := (0, 12)) hO rfl rfl
  have i6 := jr_gR (k := 6) (q := 3) hO rfl
  have i7 := jr_gR (k := 7) (q := 4) hO rfl
  have i8 := jr_gR (k := 8) (q := 5) hO rfl
  have i9 := jr_gR (k := 9) (q := 6) hO rfl
  have i10 := jr_gR (k := 10) (q := 7) hO rfl
  have i11 := jr_gR (k := 11) (q := 8) hO rfl
  have i12 := jr_gR (k := 12) (q := 9) hO rfl
  have i13 := jr_gR (k := 13) (q := 10) hO rfl
  have i14 := jr_gR (k := 14) (q := 11) hO rfl
  have i15 := jr_gR (k := 15) (q := 12) hO rfl
  have i16 := jr_gR (k := 16) (q := 13) hO rfl
  have i17 := jr_gR (k := 17) (q := 14) hO rfl
  have i18 := jr_gR (k := 18) (q := 15) hO rfl
  have i19 := jr_gR (k := 19) (q := 16) hO rfl
  have i20 := jr_gR (k := 20) (q := 17) hO rfl
  have i21 := jr_gR (k := 21) (q := 18) hO rfl
  have i22 := jr_gI (k := 22) (b := ((-2147483648), 2147483647)) hO rfl rfl
  have i23 := jr_gR (k := 23) (q := 19) hO rfl
  have i24 := jr_gR (k := 24) (q := 20) hO rfl
  have i25 := jr_gR (k := 25) (q := 21) hO rfl
  have i26 := jr_gR (k := 26) (q := 22) hO rfl
  have i27 := jr_gR (k := 27) (q := 23) hO rfl
  have i28 := jr_gR (k := 28) (q := 24) hO rfl
  have i29 := jr_gR (k := 29) (q := 25) hO rfl
  have i30 := jr_gR (k := 30) (q := 26) hO rfl
  have i31 := jr_gI (k := 31) (b := (0, 18)) hO rfl rfl
  have i32 := jr_gI (k := 32) (b := ((-2147483648), 2147483647)) hO rfl rfl
  have i33 := jr_gI (k := 33) (b := (0, 16)) hO rfl rfl
  have i34 := jr_gI (k := 34) (b := ((-1), 63)) hO rfl rfl
  have i35 := jr_gI (k := 35) (b := ((-2147483648), 2147483647)) hO rfl rfl
  have i36 := jr_gI (k := 36) (b := ((-2147483648), 2147483647)) hO rfl rfl
  have i37 := jr_gI (k := 37) (b := ((-1), 11)) hO rfl rfl
  have i38 := jr_gI (k := 38) (b := ((-2147483648), 2147483647)) hO rfl rfl
  have i39 := jr_gI (k := 39) (b := ((-2147483648), 2147483647)) hO rfl rfl
  have i40 := jr_gI (k := 40) (b := ((-2147483648), 2147483647)) hO rfl rfl
  have i41 := jr_gI (k := 41) (b := ((-2147483648), 2147483647)) hO rfl rfl
  have i42 := jr_gI (k := 42) (b := ((-2147483648), 2147483647)) hO rfl rfl
  have i43 := jr_gI (k := 43) (b := ((-2147483648), 2147483647)) hO rfl rfl
  have r1 := jr_rL (j := 1) (k := 1) hO hF (by decide) rfl (jm_cell (j := 1) rfl) rfl
  have r2 := jr_rI (j := 2) (k := 3) (lo := (-2147483648)) (hi := 2147483647) hO hF (by decide) rfl (jm_cell (j := 2) rfl) rfl
  have r3 := jr_rI (j := 3) (k := 6) (lo := (-2147483648)) (hi := 2147483647) hO hF (by decide) rfl (jm_cell (j := 3) rfl) rfl
  have r4 := jr_rI (j := 4) (k := 7) (lo := (-2147483648)) (hi := 2147483647) hO hF (by decide) rfl (jm_cell (j := 4) rfl) rfl
  have r5 := jr_rI (j := 5) (k := 8) (lo := (-2147483648)) (hi := 2147483647) hO hF (by decide) rfl (jm_cell (j := 5) rfl) rfl
  have r6 := jr_rI (j := 6) (k := 9) (lo := (-2147483648)) (hi := 2147483647) hO hF (by decide) rfl (jm_cell (j := 6) rfl) rfl
  have r7 := jr_rL (j := 7) (k := 10) hO hF (by decide) rfl (jm_cell (j := 7) rfl) rfl
  have r8 := jr_rI (j := 8) (k := 11) (lo := (-2147483648)) (hi := 2147483647) hO hF (by decide) rfl (jm_cell (j := 8) rfl) rfl
  have r9 := jr_rL (j := 9) (k := 12) hO hF (by decide) rfl (jm_cell (j := 9) rfl) rfl
  have r10 := jr_rI (j := 10) (k := 13) (lo := (-2147483648)) (hi := 2147483647) hO hF (by decide) rfl (jm_cell (j := 10) rfl) rfl
  have r11 := jr_rI (j := 11) (k := 14) (lo := 0) (hi := 2000) hO hF (by decide) rfl (jm_cell (j := 11) rfl) rfl
  have r12 := jr_rI (j := 12) (k := 15) (lo := 0) (hi := 2000) hO hF (by decide) rfl (jm_cell (j := 12) rfl) rfl
  have r13 := jr_rI (j := 13) (k := 16) (lo := (-2147483648)) (hi := 2147483647) hO hF (by decide) rfl (jm_cell (j := 13) rfl) rfl
  have r14 := jr_rI (j := 14) (k := 17) (lo := 0) (hi := 400) hO hF (by decide) rfl (jm_cell (j := 14) rfl) rfl
  have r15 := jr_rI (j := 15) (k := 18) (lo := (-2147483648)) (hi := 2147483647) hO hF (by decide) rfl (jm_cell (j := 15) rfl) rfl
  have r16 := jr_rI (j := 16) (k := 19) (lo := 0) (hi := 767) hO hF (by decide) rfl (jm_cell (j := 16) rfl) rfl
  have r17 := jr_rI (j := 17) (k := 20) (lo := 0) (hi := 1) hO hF (by decide) rfl (jm_cell (j := 17) rfl) rfl
  have r18 := jr_rI (j := 18) (k := 21) (lo := (-2147483648)) (hi := 2147483647) hO hF (by decide) rfl (jm_cell (j := 18) rfl) rfl
  have r19 := jr_rI (j := 19) (k := 23) (lo := (-1)) (hi := 767) hO hF (by decide) rfl (jm_cell (j := 19) rfl) rfl
  have r20 := jr_rI (j := 20) (k := 24) (lo := (-2147483648)) (hi := 2147483647) hO hF (by decide) rfl (jm_cell (j := 20) rfl) rfl
  have r21 := jr_rI (j := 21) (k := 25) (lo := (-2147483648)) (hi := 2147483647) hO hF (by decide) rfl (jm_cell (j := 21) rfl) rfl
  have r22 := jr_rI (j := 22) (k := 26) (lo := 0) (hi := 1) hO hF (by decide) rfl (jm_cell (j := 22) rfl) rfl
  have r23 := jr_rI (j := 23) (k := 27) (lo := 0) (hi := 1) hO hF (by decide) rfl (jm_cell (j := 23) rfl) rfl
  have r24 := jr_rI (j := 24) (k := 28) (lo := (-1)) (hi := 767) hO hF (by decide) rfl (jm_cell (j := 24) rfl) rfl
  have r25 := jr_rI (j := 25) (k := 29) (lo := (-2147483648)) (hi := 2147483647) hO hF (by decide) rfl (jm_cell (j := 25) rfl) rfl
  have r26 := jr_rI (j := 26) (k := 30) (lo := 0) (hi := 16) hO hF (by decide) rfl (jm_cell (j := 26) rfl) rfl
  have r0 : h'.1 m = some (.inl (0, jm_fs m (jr_I h' m))) := by
    obtain ⟨d, c, g1, g2, g3⟩ := hO (m + 0) 0 (jr_ρ_at (by decide))
    rw [Nat.add_zero] at g2
    cases g1
    rcases c with ⟨ci, fs⟩ | ⟨kd', n', f⟩
    · obtain ⟨rfl, hV⟩ := g3
      have hlen : fs.length = 44 := jk_Vs_len hV
      rw [g2]
      congr 3
      have hg : ∀ k v, jv_gf h' m 0 k = some v → fs[k]? = some v := fun k v e => by
        unfold jv_gf at e
        rw [g2] at e
        exact e
      apply List.ext_getElem?
      intro k
      match k with
      | 0 => exact hg 0 _ i0.1
      | 1 => exact hg 1 _ i1
      | 2 => exact hg 2 _ i2.1
      | 3 => exact hg 3 _ i3
      | 4 => exact hg 4 _ i4.1
      | 5 => exact hg 5 _ i5.1
      | 6 => exact hg 6 _ i6
      | 7 => exact hg 7 _ i7
      | 8 => exact hg 8 _ i8
      | 9 => exact hg 9 _ i9
      | 10 => exact hg 10 _ i10
      | 11 => exact hg 11 _ i11
      | 12 => exact hg 12 _ i12
      | 13 => exact hg 13 _ i13
      | 14 => exact hg 14 _ i14
      | 15 => exact hg 15 _ i15
      | 16 => exact hg 16 _ i16
      | 17 => exact hg 17 _ i17
      | 18 => exact hg 18 _ i18
      | 19 => exact hg 19 _ i19
      | 20 => exact hg 20 _ i20
      | 21 => exact hg 21 _ i21
      | 22 => exact hg 22 _ i22.1
      | 23 => exact hg 23 _ i23
      | 24 => exact hg 24 _ i24
      | 25 => exact hg 25 _ i25
      | 26 => exact hg 26 _ i26
      | 27 => exact hg 27 _ i27
      | 28 => exact hg 28 _ i28
      | 29 => exact hg 29 _ i29
      | 30 => exact hg 30 _ i30
      | 31 => exact hg 31 _ i31.1
      | 32 => exact hg 32 _ i32.1
      | 33 => exact hg 33 _ i33.1
      | 34 => exact hg 34 _ i34.1
      | 35 => exact hg 35 _ i35.1
      | 36 => exact hg 36 _ i36.1
      | 37 => exact hg 37 _ i37.1
      | 38 => exact hg 38 _ i38.1
      | 39 => exact hg 39 _ i39.1
      | 40 => exact hg 40 _ i40.1
      | 41 => exact hg 41 _ i41.1
      | 42 => exact hg 42 _ i42.1
      | 43 => exact hg 43 _ i43.1
      | k + 44 => rw [List.getElem?_eq_none (by omega), List.getElem?_eq_none (by simp [jm_fs])]
    · exact g3.elim
  have hh : h' = jm_H m (jr_I h' m) (jr_A h' m) (jr_L h' m) rest z := by
    have e1 : h'.2 = z := hF.1
    have e2 : h'.1 = jm_map m (jr_I h' m) (jr_A h' m) (jr_L h' m) rest := by
      funext q
      by_cases hq : q < m ∨ m + 27 ≤ q
      · have hn : jr_ρ m q = none := by
          unfold jr_ρ
          rcases hq with hq | hq
          · rw [if_pos hq]
          · rw [if_neg (by omega), if_neg (by omega)]
        rw [hF.2.1 q hn]
        show jm_map m I A L rest q = _
        unfold jm_map jm_in
        rcases hq with hq | hq
        · rw [if_pos hq, if_pos hq]
        · rw [if_neg (by omega), if_neg (by omega)]
          obtain ⟨j, hj⟩ : ∃ j, q - m = j + 27 := ⟨q - m - 27, by omega⟩
          rw [hj]
          rfl
      · obtain ⟨j, hj, rfl⟩ : ∃ j, j < 27 ∧ q = m + j := ⟨q - m, by omega, by omega⟩
        have hg : jm_map m (jr_I h' m) (jr_A h' m) (jr_L h' m) rest (m + j) = jm_at m (jr_I h' m) (jr_A h' m) (jr_L h' m) j := by
          have hs : (jm_at m (jr_I h' m) (jr_A h' m) (jr_L h' m) j).isSome = true := by
            match j, hj with
            | 0, _ => rfl
            | 1, _ => rfl
            | 2, _ => rfl
            | 3, _ => rfl
            | 4, _ => rfl
            | 5, _ => rfl
            | 6, _ => rfl
            | 7, _ => rfl
            | 8, _ => rfl
            | 9, _ => rfl
            | 10, _ => rfl
            | 11, _ => rfl
            | 12, _ => rfl
            | 13, _ => rfl
            | 14, _ => rfl
            | 15, _ => rfl
            | 16, _ => rfl
            | 17, _ => rfl
            | 18, _ => rfl
            | 19, _ => rfl
            | 20, _ => rfl
            | 21, _ => rfl
            | 22, _ => rfl
            | 23, _ => rfl
            | 24, _ => rfl
            | 25, _ => rfl
            | 26, _ => rfl
            | j + 27, hj => omega
          obtain ⟨c, hc⟩ := Option.isSome_iff_exists.mp hs
          rw [hc]
          exact jm_cell (rest := rest) (z := z) hc
        rw [hg]
        match j, hj with
        | 0, _ => exact r0
        | 1, _ => exact r1
        | 2, _ => exact r2.1
        | 3, _ => exact r3.1
        | 4, _ => exact r4.1
        | 5, _ => exact r5.1
        | 6, _ => exact r6.1
        | 7, _ => exact r7
        | 8, _ => exact r8.1
        | 9, _ => exact r9
        | 10, _ => exact r10.1
        | 11, _ => exact r11.1
        | 12, _ => exact r12.1
        | 13, _ => exact r13.1
        | 14, _ => exact r14.1
        | 15, _ => exact r15.1
        | 16, _ => exact r16.1
        | 17, _ => exact r17.1
        | 18, _ => exact r18.1
        | 19, _ => exact r19.1
        | 20, _ => exact r20.1
        | 21, _ => exact r21.1
        | 22, _ => exact r22.1
        | 23, _ => exact r23.1
        | 24, _ => exact r24.1
        | 25, _ => exact r25.1
        | 26, _ => exact r26.1
        | j + 27, hj => omega
    exact Prod.ext e2 e1
  refine ⟨_, _, _, hh, ⟨fun k b hk => ?_, fun k b hk i => ?_⟩, fun k hk => ?_, fun k hk i => ?_⟩
  · unfold jr_ib at hk
    split at hk
    · cases hk; exact ⟨i0.2.1, i0.2.2⟩
    · cases hk; exact ⟨i2.2.1, i2.2.2⟩
    · cases hk; exact ⟨i4.2.1, i4.2.2⟩
    · cases hk; exact ⟨i5.2.1, i5.2.2⟩
    · cases hk; exact ⟨i31.2.1, i31.2.2⟩
    · cases hk; exact ⟨i33.2.1, i33.2.2⟩
    · cases hk; exact ⟨i34.2.1, i34.2.2⟩
    · cases hk; exact ⟨i37.2.1, i37.2.2⟩
    · cases hk
  · unfold jr_rb at hk
    split at hk
    · cases hk; exact r11.2.1 i
    · cases hk; exact r12.2.1 i
    · cases hk; exact r14.2.1 i
    · cases hk; exact r16.2.1 i
    · cases hk; exact r17.2.1 i
    · cases hk; exact r19.2.1 i
    · cases hk; exact r22.2.1 i
    · cases hk; exact r23.2.1 i
    · cases hk; exact r24.2.1 i
    · cases hk; exact r26.2.1 i
    · cases hk
  · have hp : ∀ k, jr_pr 0 k = true → jv_gf h' m 0 k = jv_gf (jm_H m I A L rest z) m 0 k := fun k hk => by
      obtain ⟨c', e, hs⟩ := hF.2.2 m 0 _ (jr_ρ_at (m := m) (k := 0) (by decide)) (jm_cell0 rfl)
      unfold jv_gf
      rw [e, jm_cell0 rfl]
      rcases c' with ⟨ci', fs'⟩ | ⟨kd, n, f⟩
      · obtain ⟨rfl, _, hk'⟩ := hs
        simp only
        rw [hk' k hk]
      · exact hs.elim
    simp only [List.mem_cons, List.not_mem_nil, or_false] at hk
    rcases hk with rfl | rfl | rfl | rfl | rfl | rfl | rfl | rfl | rfl | rfl
    · have e := i0.1.symm.trans ((hp 0 rfl).trans jm_g0)
      simpa using e
    · have e := i2.1.symm.trans ((hp 2 rfl).trans jm_g2)
      simpa using e
    · have e := i4.1.symm.trans ((hp 4 rfl).trans jm_g4)
      simpa using e
    · have e := i5.1.symm.trans ((hp 5 rfl).trans jm_g5)
      simpa using e
    · have e := i22.1.symm.trans ((hp 22 rfl).trans jm_g22)
      simpa using e
    · have e := i31.1.symm.trans ((hp 31 rfl).trans jm_g31)
      simpa using e
    · have e := i32.1.symm.trans ((hp 32 rfl).trans jm_g32)
      simpa using e
    · have e := i33.1.symm.trans ((hp 33 rfl).trans jm_g33)
      simpa using e
    · have e := i34.1.symm.trans ((hp 34 rfl).trans jm_g34)
      simpa using e
    · have e := i37.1.symm.trans ((hp 37 rfl).trans jm_g37)
      simpa using e
  · simp only [List.mem_cons, List.not_mem_nil, or_false] at hk
    rcases hk with rfl | rfl | rfl | rfl | rfl | rfl | rfl | rfl | rfl | rfl | rfl | rfl | rfl
    · have e := r3.2.2 rfl i
      simpa using e.symm
    · have e := r5.2.2 rfl i
      simpa using e.symm
    · have e := r6.2.2 rfl i
      simpa using e.symm
    · have e := r11.2.2 rfl i
      simpa using e.symm
    · have e := r15.2.2 rfl i
      simpa using e.symm
    · have e := r16.2.2 rfl i
      simpa using e.symm
    · have e := r17.2.2 rfl i
      simpa using e.symm
    · have e := r18.2.2 rfl i
      simpa using e.symm
    · have e := r19.2.2 rfl i
      simpa using e.symm
    · have e := r22.2.2 rfl i
      simpa using e.symm
    · have e := r24.2.2 rfl i
      simpa using e.symm
    · have e := r25.2.2 rfl i
      simpa using e.symm
    · have e := r26.2.2 rfl i
      simpa using e.symm
theorem jr_bA {k : Nat} {r : Nat → Int32} (hB : jr_B I A) (hr : ∀ b, jr_rb k = some b → ∀ i, b.1 ≤ (r i).toInt ∧ (r i).toInt ≤ b.2) : jr_B I (va_up A k r) := by
  refine ⟨hB.1, fun k' b hb i => ?_⟩
  by_cases e : k' = k
  · subst e
    rw [jz_us]
    exact hr b hb i
  · rw [jz_un e]
    exact hB.2 k' b hb i
theorem jr_bI {k : Nat} {v : Int32} (hB : jr_B I A) (hv : ∀ b, jr_ib k = some b → b.1 ≤ v.toInt ∧ v.toInt ≤ b.2) : jr_B (upd I k v) A := by
  refine ⟨fun k' b hb => ?_, hB.2⟩
  unfold upd
  split
  · rename_i e
    subst e
    exact hv b hb
  · exact hB.1 k' b hb
theorem jr_bu {k i : Nat} {v : Int32} (hB : jr_B I A) (hv : ∀ b, jr_rb k = some b → b.1 ≤ v.toInt ∧ v.toInt ≤ b.2) : jr_B I (va_up A k (upd (A k) i v)) := by
  refine jr_bA hB (fun b hb j => ?_)
  unfold upd
  split
  · exact hv b hb
  · exact hB.2 k b hb j
/-- what no method but those of the transfers changes -/
def jr_K (I : Nat → Int32) (A : Nat → Nat → Int32) (I' : Nat → Int32) (A' : Nat → Nat → Int32) : Prop := jr_B I' A' ∧ (∀ k, k ∈ [0, 2, 4, 5, 22, 31, 32, 33, 34, 37] → I' k = I k) ∧ ∀ k, k ∈ [6, 8, 9, 14, 18, 19, 20, 21, 23, 26, 28, 29, 30] → ∀ i, A' k i = A k i
theorem jr_K_rf (hB : jr_B I A) : jr_K I A I A := ⟨hB, fun _ _ => rfl, fun _ _ _ => rfl⟩
theorem jr_K_tr {I1 I2 I3 : Nat → Int32} {A1 A2 A3 : Nat → Nat → Int32} (a : jr_K I1 A1 I2 A2) (b : jr_K I2 A2 I3 A3) : jr_K I1 A1 I3 A3 := ⟨b.1, fun k hk => (b.2.1 k hk).trans (a.2.1 k hk), fun k hk i => (b.2.2 k hk i).trans (a.2.2 k hk i)⟩
theorem jr_K_u {k i : Nat} {v : Int32} (hB : jr_B I A) (hk : ¬ k ∈ [6, 8, 9, 14, 18, 19, 20, 21, 23, 26, 28, 29, 30]) (hv : ∀ b, jr_rb k = some b → b.1 ≤ v.toInt ∧ v.toInt ≤ b.2) : jr_K I A I (va_up A k (upd (A k) i v)) := ⟨jr_bu hB hv, fun _ _ => rfl, fun k' hk' i' => by rw [jz_un (fun e => hk (by rw [← e]; exact hk'))]⟩
/-- a leaf method on the reference's object -/
theorem jr_leaf {sg : jk_G} {call : jv_F} {y : Nat} {ats : List jk_T} {rt : Option jk_T} {as : List Value} (S : jk_Sp jr_RT jr_pr sg call y) (hs : sg y = some (ats, rt)) (hB : jr_B I A) (hV : jk_Vs (jr_ρ m) ats as) : ∃ r I' A' L', call y as (jm_H m I A L rest z) = some (r, jm_H m I' A' L' rest z) ∧ jr_K I A I' A' ∧ jk_Rt (jr_ρ m) rt r := by
  obtain ⟨r, h', e, hO', hF, hR⟩ := S _ _ hs (jr_ρ m) (jm_H m I A L rest z) as (jr_ok hB) hV
  obtain ⟨I', A', L', rfl, hB', k1, k2⟩ := jr_back hO' hF
  exact ⟨r, I', A', L', e, ⟨hB', k1, k2⟩, hR⟩
end JR
