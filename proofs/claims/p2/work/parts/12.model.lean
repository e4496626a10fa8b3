/-! the reference's object and rows: I k is its int field k, A k its row of ints (or booleans) in field k, L k its row of longs -/
def jm_fs (m : Nat) (I : Nat → Int32) : List Value := [.int (I 0), .ref (m + 1), .int (I 2), .ref (m + 2), .int (I 4), .int (I 5), .ref (m + 3), .ref (m + 4), .ref (m + 5), .ref (m + 6), .ref (m + 7), .ref (m + 8), .ref (m + 9), .ref (m + 10), .ref (m + 11), .ref (m + 12), .ref (m + 13), .ref (m + 14), .ref (m + 15), .ref (m + 16), .ref (m + 17), .ref (m + 18), .int (I 22), .ref (m + 19), .ref (m + 20), .ref (m + 21), .ref (m + 22), .ref (m + 23), .ref (m + 24), .ref (m + 25), .ref (m + 26), .int (I 31), .int (I 32), .int (I 33), .int (I 34), .int (I 35), .int (I 36), .int (I 37), .int (I 38), .int (I 39), .int (I 40), .int (I 41), .int (I 42), .int (I 43)]
def jm_at (m : Nat) (I : Nat → Int32) (A : Nat → Nat → Int32) (L : Nat → Nat → Int64) (j : Nat) : Option jv_C := match j with
  | 0 => some (.inl (0, jm_fs m I))
  | 1 => some (.inr (1, 1000, fun i => .long (L 1 i)))
  | 2 => some (.inr (0, 2000, fun i => .int (A 3 i)))
  | 3 => some (.inr (0, 12, fun i => .int (A 6 i)))
  | 4 => some (.inr (0, 12, fun i => .int (A 7 i)))
  | 5 => some (.inr (0, 12, fun i => .int (A 8 i)))
  | 6 => some (.inr (0, 12, fun i => .int (A 9 i)))
  | 7 => some (.inr (1, 12, fun i => .long (L 10 i)))
  | 8 => some (.inr (0, 1536, fun i => .int (A 11 i)))
  | 9 => some (.inr (1, 12288, fun i => .long (L 12 i)))
  | 10 => some (.inr (0, 24000, fun i => .int (A 13 i)))
  | 11 => some (.inr (0, 12, fun i => .int (A 14 i)))
  | 12 => some (.inr (0, 12, fun i => .int (A 15 i)))
  | 13 => some (.inr (0, 4800, fun i => .int (A 16 i)))
  | 14 => some (.inr (0, 12, fun i => .int (A 17 i)))
  | 15 => some (.inr (0, 12, fun i => .int (A 18 i)))
  | 16 => some (.inr (0, 12, fun i => .int (A 19 i)))
  | 17 => some (.inr (2, 768, fun i => .int (A 20 i)))
  | 18 => some (.inr (0, 768, fun i => .int (A 21 i)))
  | 19 => some (.inr (0, 17, fun i => .int (A 23 i)))
  | 20 => some (.inr (0, 17, fun i => .int (A 24 i)))
  | 21 => some (.inr (0, 17, fun i => .int (A 25 i)))
  | 22 => some (.inr (2, 17, fun i => .int (A 26 i)))
  | 23 => some (.inr (2, 17, fun i => .int (A 27 i)))
  | 24 => some (.inr (0, 64, fun i => .int (A 28 i)))
  | 25 => some (.inr (0, 18, fun i => .int (A 29 i)))
  | 26 => some (.inr (0, 18, fun i => .int (A 30 i)))
  | _ => none
def jm_in (m : Nat) (I : Nat → Int32) (A : Nat → Nat → Int32) (L : Nat → Nat → Int64) (q : Nat) : Option jv_C := if q < m then none else jm_at m I A L (q - m)
def jm_map (m : Nat) (I : Nat → Int32) (A : Nat → Nat → Int32) (L : Nat → Nat → Int64) (rest : Nat → Option jv_C) (q : Nat) : Option jv_C := match jm_in m I A L q with
  | some c => some c
  | none => rest q
def jm_H (m : Nat) (I : Nat → Int32) (A : Nat → Nat → Int32) (L : Nat → Nat → Int64) (rest : Nat → Option jv_C) (z : Nat × Nat) : jv_H := (jm_map m I A L rest, z)
section JMH
variable {m : Nat} {I : Nat → Int32} {A : Nat → Nat → Int32} {L : Nat → Nat → Int64} {rest : Nat → Option jv_C} {z : Nat × Nat}
theorem jm_cell {j : Nat} {c : jv_C} (h : jm_at m I A L j = some c) : (jm_H m I A L rest z).1 (m + j) = some c := by
  show jm_map m I A L rest (m + j) = some c
  unfold jm_map jm_in
  rw [if_neg (by omega), Nat.add_sub_cancel_left, h]
theorem jm_cell0 {c : jv_C} (h : jm_at m I A L 0 = some c) : (jm_H m I A L rest z).1 m = some c := jm_cell (j := 0) h
theorem jm_upd {I' : Nat → Int32} {A' : Nat → Nat → Int32} {L' : Nat → Nat → Int64} {j : Nat} {c c' : jv_C} (h0 : jm_at m I A L j = some c) (h1 : jm_at m I' A' L' j = some c') (h2 : ∀ k, ¬ k = j → jm_at m I' A' L' k = jm_at m I A L k) : (jv_up (jm_H m I A L rest z).1 (m + j) c', (jm_H m I A L rest z).2) = jm_H m I' A' L' rest z := by
  show (_, z) = (_, z)
  congr 1
  funext q
  unfold jv_up
  by_cases hq : q = m + j
  · subst hq
    rw [if_pos rfl]
    exact (jm_cell (rest := rest) (z := z) h1).symm
  · rw [if_neg hq]
    show jm_map m I A L rest q = jm_map m I' A' L' rest q
    unfold jm_map jm_in
    by_cases hl : q < m
    · rw [if_pos hl, if_pos hl]
    · rw [if_neg hl, if_neg hl, h2 (q - m) (by omega)]
theorem jm_atI {I' : Nat → Int32} (k : Nat) (hk : ¬ k = 0) : jm_at m I' A L k = jm_at m I A L k := by
  match k, hk with
  | 0, hk => exact absurd rfl hk
  | 1, _ => rfl
  | 2, _ => rfl
  | 3, _ => rfl
  | 4, _ => rfl
  | 5, _ => rfl
  | 6, _ => rfl
  | 7, _ => rfl
  | 8, _ => rfl
  | 9, _ => rfl
  | 10, _ => rfl
  | 11, _ => rfl
  | 12, _ => rfl
  | 13, _ => rfl
  | 14, _ => rfl
  | 15, _ => rfl
  | 16, _ => rfl
  | 17, _ => rfl
  | 18, _ => rfl
  | 19, _ => rfl
  | 20, _ => rfl
  | 21, _ => rfl
  | 22, _ => rfl
  | 23, _ => rfl
  | 24, _ => rfl
  | 25, _ => rfl
  | 26, _ => rfl
  | k + 27, _ => rfl
theorem jv_gf_of {h : jv_H} {a ci k : Nat} {fs : List Value} {v : Value} (hc : h.1 a = some (.inl (ci, fs))) (hk : fs[k]? = some v) : jv_gf h a ci k = some v := by
  unfold jv_gf
  rw [hc]
  exact (if_pos rfl).trans hk
theorem jv_pf_of {h : jv_H} {a ci k : Nat} {fs : List Value} {v : Value} (hc : h.1 a = some (.inl (ci, fs))) (hk : k < fs.length) (hn : narrow (jt_fty ci k) v = v) (hf : fits (jt_fty ci k) v = true) : jv_pf h a ci k v = some (jv_up h.1 a (.inl (ci, fs.set k v)), h.2) := by
  unfold jv_pf
  rw [hc]
  exact if_pos ⟨rfl, hk, hn, hf⟩
theorem jv_al_of {h : jv_H} {a k n i : Nat} {f : Nat → Value} {ty : FieldType} (hc : h.1 a = some (.inr (k, n, f))) (ht : jt_at[k]? = some ty) (hi : i < n) (hn : n < 2 ^ 31) : jv_al h a ty (nI i) = some (f i) := by
  unfold jv_al
  rw [hc]
  refine (if_pos ⟨ht, nI_in hi hn⟩).trans ?_
  rw [nI_clamp (by omega)]
theorem jv_as_of {h : jv_H} {a k n i : Nat} {f : Nat → Value} {ty : FieldType} {v : Value} (hc : h.1 a = some (.inr (k, n, f))) (hk : ¬ k = jt_scr) (ht : jt_at[k]? = some ty) (hi : i < n) (hn : n < 2 ^ 31) : jv_as h a ty (nI i) v = some (jv_up h.1 a (.inr (k, n, updV f i v)), h.2) := by
  unfold jv_as
  rw [hc]
  refine (if_pos ⟨hk, ht, nI_in hi hn⟩).trans ?_
  rw [nI_clamp (by omega)]
theorem jm_g0 : jv_gf (jm_H m I A L rest z) m 0 0 = some (.int (I 0)) := jv_gf_of (jm_cell0 rfl) rfl
theorem jm_p0 {v : Int32} : jv_pf (jm_H m I A L rest z) m 0 0 (.int v) = some (jm_H m (upd I 0 v) A L rest z) := (jv_pf_of (jm_cell0 rfl) (Nat.le_of_ble_eq_true rfl) rfl rfl).trans (congrArg some (jm_upd (j := 0) rfl rfl jm_atI))
theorem jm_g1 : jv_gf (jm_H m I A L rest z) m 0 1 = some (.ref (m + 1)) := jv_gf_of (jm_cell0 rfl) rfl
theorem jm_g2 : jv_gf (jm_H m I A L rest z) m 0 2 = some (.int (I 2)) := jv_gf_of (jm_cell0 rfl) rfl
theorem jm_p2 {v : Int32} : jv_pf (jm_H m I A L rest z) m 0 2 (.int v) = some (jm_H m (upd I 2 v) A L rest z) := (jv_pf_of (jm_cell0 rfl) (Nat.le_of_ble_eq_true rfl) rfl rfl).trans (congrArg some (jm_upd (j := 0) rfl rfl jm_atI))
theorem jm_g3 : jv_gf (jm_H m I A L rest z) m 0 3 = some (.ref (m + 2)) := jv_gf_of (jm_cell0 rfl) rfl
theorem jm_g4 : jv_gf (jm_H m I A L rest z) m 0 4 = some (.int (I 4)) := jv_gf_of (jm_cell0 rfl) rfl
theorem jm_p4 {v : Int32} : jv_pf (jm_H m I A L rest z) m 0 4 (.int v) = some (jm_H m (upd I 4 v) A L rest z) := (jv_pf_of (jm_cell0 rfl) (Nat.le_of_ble_eq_true rfl) rfl rfl).trans (congrArg some (jm_upd (j := 0) rfl rfl jm_atI))
theorem jm_g5 : jv_gf (jm_H m I A L rest z) m 0 5 = some (.int (I 5)) := jv_gf_of (jm_cell0 rfl) rfl
theorem jm_p5 {v : Int32} : jv_pf (jm_H m I A L rest z) m 0 5 (.int v) = some (jm_H m (upd I 5 v) A L rest z) := (jv_pf_of (jm_cell0 rfl) (Nat.le_of_ble_eq_true rfl) rfl rfl).trans (congrArg some (jm_upd (j := 0) rfl rfl jm_atI))
theorem jm_g6 : jv_gf (jm_H m I A L rest z) m 0 6 = some (.ref (m + 3)) := jv_gf_of (jm_cell0 rfl) rfl
theorem jm_g7 : jv_gf (jm_H m I A L rest z) m 0 7 = some (.ref (m + 4)) := jv_gf_of (jm_cell0 rfl) rfl
theorem jm_g8 : jv_gf (jm_H m I A L rest z) m 0 8 = some (.ref (m + 5)) := jv_gf_of (jm_cell0 rfl) rfl
theorem jm_g9 : jv_gf (jm_H m I A L rest z) m 0 9 = some (.ref (m + 6)) := jv_gf_of (jm_cell0 rfl) rfl
theorem jm_g10 : jv_gf (jm_H m I A L rest z) m 0 10 = some (.ref (m + 7)) := jv_gf_of (jm_cell0 rfl) rfl
theorem jm_g11 : jv_gf (jm_H m I A L rest z) m 0 11 = some (.ref (m + 8)) := jv_gf_of (jm_cell0 rfl) rfl
theorem jm_g12 : jv_gf (jm_H m I A L rest z) m 0 12 = some (.ref (m + 9)) := jv_gf_of (jm_cell0 rfl) rfl
theorem jm_g13 : jv_gf (jm_H m I A L rest z) m 0 13 = some (.ref (m + 10)) := jv_gf_of (jm_cell0 rfl) rfl
theorem jm_g14 : jv_gf (jm_H m I A L rest z) m 0 14 = some (.ref (m + 11)) := jv_gf_of (jm_cell0 rfl) rfl
theorem jm_g15 : jv_gf (jm_H m I A L rest z) m 0 15 = some (.ref (m + 12)) := jv_gf_of (jm_cell0 rfl) rfl
theorem jm_g16 : jv_gf (jm_H m I A L rest z) m 0 16 = some (.ref (m + 13)) := jv_gf_of (jm_cell0 rfl) rfl
theorem jm_g17 : jv_gf (jm_H m I A L rest z) m 0 17 = some (.ref (m + 14)) := jv_gf_of (jm_cell0 rfl) rfl
theorem jm_g18 : jv_gf (jm_H m I A L rest z) m 0 18 = some (.ref (m + 15)) := jv_gf_of (jm_cell0 rfl) rfl
theorem jm_g19 : jv_gf (jm_H m I A L rest z) m 0 19 = some (.ref (m + 16)) := jv_gf_of (jm_cell0 rfl) rfl
theorem jm_g20 : jv_gf (jm_H m I A L rest z) m 0 20 = some (.ref (m + 17)) := jv_gf_of (jm_cell0 rfl) rfl
theorem jm_g21 : jv_gf (jm_H m I A L rest z) m 0 21 = some (.ref (m + 18)) := jv_gf_of (jm_cell0 rfl) rfl
theorem jm_g22 : jv_gf (jm_H m I A L rest z) m 0 22 = some (.int (I 22)) := jv_gf_of (jm_cell0 rfl) rfl
theorem jm_p22 {v : Int32} : jv_pf (jm_H m I A L rest z) m 0 22 (.int v) = some (jm_H m (upd I 22 v) A L rest z) := (jv_pf_of (jm_cell0 rfl) (Nat.le_of_ble_eq_true rfl) rfl rfl).trans (congrArg some (jm_upd (j := 0) rfl rfl jm_atI))
theorem jm_g23 : jv_gf (jm_H m I A L rest z) m 0 23 = some (.ref (m + 19)) := jv_gf_of (jm_cell0 rfl) rfl
theorem jm_g24 : jv_gf (jm_H m I A L rest z) m 0 24 = some (.ref (m + 20)) := jv_gf_of (jm_cell0 rfl) rfl
theorem jm_g25 : jv_gf (jm_H m I A L rest z) m 0 25 = some (.ref (m + 21)) := jv_gf_of (jm_cell0 rfl) rfl
theorem jm_g26 : jv_gf (jm_H m I A L rest z) m 0 26 = some (.ref (m + 22)) := jv_gf_of (jm_cell0 rfl) rfl
theorem jm_g27 : jv_gf (jm_H m I A L rest z) m 0 27 = some (.ref (m + 23)) := jv_gf_of (jm_cell0 rfl) rfl
theorem jm_g28 : jv_gf (jm_H m I A L rest z) m 0 28 = some (.ref (m + 24)) := jv_gf_of (jm_cell0 rfl) rfl
theorem jm_g29 : jv_gf (jm_H m I A L rest z) m 0 29 = some (.ref (m + 25)) := jv_gf_of (jm_cell0 rfl) rfl
theorem jm_g30 : jv_gf (jm_H m I A L rest z) m 0 30 = some (.ref (m + 26)) := jv_gf_of (jm_cell0 rfl) rfl
theorem jm_g31 : jv_gf (jm_H m I A L rest z) m 0 31 = some (.int (I 31)) := jv_gf_of (jm_cell0 rfl) rfl
theorem jm_p31 {v : Int32} : jv_pf (jm_H m I A L rest z) m 0 31 (.int v) = some (jm_H m (upd I 31 v) A L rest z) := (jv_pf_of (jm_cell0 rfl) (Nat.le_of_ble_eq_true rfl) rfl rfl).trans (congrArg some (jm_upd (j := 0) rfl rfl jm_atI))
theorem jm_g32 : jv_gf (jm_H m I A L rest z) m 0 32 = some (.int (I 32)) := jv_gf_of (jm_cell0 rfl) rfl
theorem jm_p32 {v : Int32} : jv_pf (jm_H m I A L rest z) m 0 32 (.int v) = some (jm_H m (upd I 32 v) A L rest z) := (jv_pf_of (jm_cell0 rfl) (Nat.le_of_ble_eq_true rfl) rfl rfl).trans (congrArg some (jm_upd (j := 0) rfl rfl jm_atI))
theorem jm_g33 : jv_gf (jm_H m I A L rest z) m 0 33 = some (.int (I 33)) := jv_gf_of (jm_cell0 rfl) rfl
theorem jm_p33 {v : Int32} : jv_pf (jm_H m I A L rest z) m 0 33 (.int v) = some (jm_H m (upd I 33 v) A L rest z) := (jv_pf_of (jm_cell0 rfl) (Nat.le_of_ble_eq_true rfl) rfl rfl).trans (congrArg some (jm_upd (j := 0) rfl rfl jm_atI))
theorem jm_g34 : jv_gf (jm_H m I A L rest z) m 0 34 = some (.int (I 34)) := jv_gf_of (jm_cell0 rfl) rfl
theorem jm_p34 {v : Int32} : jv_pf (jm_H m I A L rest z) m 0 34 (.int v) = some (jm_H m (upd I 34 v) A L rest z) := (jv_pf_of (jm_cell0 rfl) (Nat.le_of_ble_eq_true rfl) rfl rfl).trans (congrArg some (jm_upd (j := 0) rfl rfl jm_atI))
theorem jm_g35 : jv_gf (jm_H m I A L rest z) m 0 35 = some (.int (I 35)) := jv_gf_of (jm_cell0 rfl) rfl
theorem jm_p35 {v : Int32} : jv_pf (jm_H m I A L rest z) m 0 35 (.int v) = some (jm_H m (upd I 35 v) A L rest z) := (jv_pf_of (jm_cell0 rfl) (Nat.le_of_ble_eq_true rfl) rfl rfl).trans (congrArg some (jm_upd (j := 0) rfl rfl jm_atI))
theorem jm_g36 : jv_gf (jm_H m I A L rest z) m 0 36 = some (.int (I 36)) := jv_gf_of (jm_cell0 rfl) rfl
theorem jm_p36 {v : Int32} : jv_pf (jm_H m I A L rest z) m 0 36 (.int v) = some (jm_H m (upd I 36 v) A L rest z) := (jv_pf_of (jm_cell0 rfl) (Nat.le_of_ble_eq_true rfl) rfl rfl).trans (congrArg some (jm_upd (j := 0) rfl rfl jm_atI))
theorem jm_g37 : jv_gf (jm_H m I A L rest z) m 0 37 = some (.int (I 37)) := jv_gf_of (jm_cell0 rfl) rfl
theorem jm_p37 {v : Int32} : jv_pf (jm_H m I A L rest z) m 0 37 (.int v) = some (jm_H m (upd I 37 v) A L rest z) := (jv_pf_of (jm_cell0 rfl) (Nat.le_of_ble_eq_true rfl) rfl rfl).trans (congrArg some (jm_upd (j := 0) rfl rfl jm_atI))
theorem jm_g38 : jv_gf (jm_H m I A L rest z) m 0 38 = some (.int (I 38)) := jv_gf_of (jm_cell0 rfl) rfl
theorem jm_p38 {v : Int32} : jv_pf (jm_H m I A L rest z) m 0 38 (.int v) = some (jm_H m (upd I 38 v) A L rest z) := (jv_pf_of (jm_cell0 rfl) (Nat.le_of_ble_eq_true rfl) rfl rfl).trans (congrArg some (jm_upd (j := 0) rfl rfl jm_atI))
theorem jm_g39 : jv_gf (jm_H m I A L rest z) m 0 39 = some (.int (I 39)) := jv_gf_of (jm_cell0 rfl) rfl
theorem jm_p39 {v : Int32} : jv_pf (jm_H m I A L rest z) m 0 39 (.int v) = some (jm_H m (upd I 39 v) A L rest z) := (jv_pf_of (jm_cell0 rfl) (Nat.le_of_ble_eq_true rfl) rfl rfl).trans (congrArg some (jm_upd (j := 0) rfl rfl jm_atI))
theorem jm_g40 : jv_gf (jm_H m I A L rest z) m 0 40 = some (.int (I 40)) := jv_gf_of (jm_cell0 rfl) rfl
theorem jm_p40 {v : Int32} : jv_pf (jm_H m I A L rest z) m 0 40 (.int v) = some (jm_H m (upd I 40 v) A L rest z) := (jv_pf_of (jm_cell0 rfl) (Nat.le_of_ble_eq_true rfl) rfl rfl).trans (congrArg some (jm_upd (j := 0) rfl rfl jm_atI))
theorem jm_g41 : jv_gf (jm_H m I A L rest z) m 0 41 = some (.int (I 41)) := jv_gf_of (jm_cell0 rfl) rfl
theorem jm_p41 {v : Int32} : jv_pf (jm_H m I A L rest z) m 0 41 (.int v) = some (jm_H m (upd I 41 v) A L rest z) := (jv_pf_of (jm_cell0 rfl) (Nat.le_of_ble_eq_true rfl) rfl rfl).trans (congrArg some (jm_upd (j := 0) rfl rfl jm_atI))
theorem jm_g42 : jv_gf (jm_H m I A L rest z) m 0 42 = some (.int (I 42)) := jv_gf_of (jm_cell0 rfl) rfl
theorem jm_p42 {v : Int32} : jv_pf (jm_H m I A L rest z) m 0 42 (.int v) = some (jm_H m (upd I 42 v) A L rest z) := (jv_pf_of (jm_cell0 rfl) (Nat.le_of_ble_eq_true rfl) rfl rfl).trans (congrArg some (jm_upd (j := 0) rfl rfl jm_atI))
theorem jm_g43 : jv_gf (jm_H m I A L rest z) m 0 43 = some (.int (I 43)) := jv_gf_of (jm_cell0 rfl) rfl
theorem jm_p43 {v : Int32} : jv_pf (jm_H m I A L rest z) m 0 43 (.int v) = some (jm_H m (upd I 43 v) A L rest z) := (jv_pf_of (jm_cell0 rfl) (Nat.le_of_ble_eq_true rfl) rfl rfl).trans (congrArg some (jm_upd (j := 0) rfl rfl jm_atI))
theorem jm_l1 {i : Nat} (hi : i < 1000) : jv_al (jm_H m I A L rest z) (m + 1) .long (nI i) = some (.long (L 1 i)) := jv_al_of (jm_cell (j := 1) rfl) rfl hi (by decide)
theorem jm_s1 {i : Nat} {v : Int64} (hi : i < 1000) : jv_as (jm_H m I A L rest z) (m + 1) .long (nI i) (.long v) = some (jm_H m I A (va_up L 1 (vp_updL (L 1) i v)) rest z) := by
  refine (jv_as_of (jm_cell (j := 1) rfl) (by decide) rfl hi (by decide)).trans (congrArg some (jm_upd (j := 1) rfl ?_ (fun k hk => ?_)))
  · refine congrArg (fun f => some (Sum.inr (1, 1000, f))) ?_
    funext q
    by_cases hq : q = i <;> simp [updV, va_up, vp_updL, hq]
  · match k, hk with
    | 0, _ => rfl
    | 1, hk => exact absurd rfl hk
    | 2, _ => rfl
    | 3, _ => rfl
    | 4, _ => rfl
    | 5, _ => rfl
    | 6, _ => rfl
    | 7, _ => rfl
    | 8, _ => rfl
    | 9, _ => rfl
    | 10, _ => rfl
    | 11, _ => rfl
    | 12, _ => rfl
    | 13, _ => rfl
    | 14, _ => rfl
    | 15, _ => rfl
    | 16, _ => rfl
    | 17, _ => rfl
    | 18, _ => rfl
    | 19, _ => rfl
    | 20, _ => rfl
    | 21, _ => rfl
    | 22, _ => rfl
    | 23, _ => rfl
    | 24, _ => rfl
    | 25, _ => rfl
    | 26, _ => rfl
    | k + 27, _ => rfl
theorem jm_l3 {i : Nat} (hi : i < 2000) : jv_al (jm_H m I A L rest z) (m + 2) .int (nI i) = some (.int (A 3 i)) := jv_al_of (jm_cell (j := 2) rfl) rfl hi (by decide)
theorem jm_s3 {i : Nat} {v : Int32} (hi : i < 2000) : jv_as (jm_H m I A L rest z) (m + 2) .int (nI i) (.int v) = some (jm_H m I (va_up A 3 (upd (A 3) i v)) L rest z) := by
  refine (jv_as_of (jm_cell (j := 2) rfl) (by decide) rfl hi (by decide)).trans (congrArg some (jm_upd (j := 2) rfl ?_ (fun k hk => ?_)))
  · refine congrArg (fun f => some (Sum.inr (0, 2000, f))) ?_
    funext q
    by_cases hq : q = i <;> simp [updV, va_up, upd, hq]
  · match k, hk with
    | 0, _ => rfl
    | 1, _ => rfl
    | 2, hk => exact absurd rfl hk
    | 3, _ => rfl
    | 4, _ => rfl
    | 5, _ => rfl
    | 6, _ => rfl
    | 7, _ => rfl
    | 8, _ => rfl
    | 9, _ => rfl
    | 10, _ => rfl
    | 11, _ => rfl
    | 12, _ => rfl
    | 13, _ => rfl
    | 14, _ => rfl
    | 15, _ => rfl
    | 16, _ => rfl
    | 17, _ => rfl
    | 18, _ => rfl
    | 19, _ => rfl
    | 20, _ => rfl
    | 21, _ => rfl
    | 22, _ => rfl
    | 23, _ => rfl
    | 24, _ => rfl
    | 25, _ => rfl
    | 26, _ => rfl
    | k + 27, _ => rfl
theorem jm_l6 {i : Nat} (hi : i < 12) : jv_al (jm_H m I A L rest z) (m + 3) .int (nI i) = some (.int (A 6 i)) := jv_al_of (jm_cell (j := 3) rfl) rfl hi (by decide)
theorem jm_s6 {i : Nat} {v : Int32} (hi : i < 12) : jv_as (jm_H m I A L rest z) (m + 3) .int (nI i) (.int v) = some (jm_H m I (va_up A 6 (upd (A 6) i v)) L rest z) := by
  refine (jv_as_of (jm_cell (j := 3) rfl) (by decide) rfl hi (by decide)).trans (congrArg some (jm_upd (j := 3) rfl ?_ (fun k hk => ?_)))
  · refine congrArg (fun f => some (Sum.inr (0, 12, f))) ?_
    funext q
    by_cases hq : q = i <;> simp [updV, va_up, upd, hq]
  · match k, hk with
    | 0, _ => rfl
    | 1, _ => rfl
    | 2, _ => rfl
    | 3, hk => exact absurd rfl hk
    | 4, _ => rfl
    | 5, _ => rfl
    | 6, _ => rfl
    | 7, _ => rfl
    | 8, _ => rfl
    | 9, _ => rfl
    | 10, _ => rfl
    | 11, _ => rfl
    | 12, _ => rfl
    | 13, _ => rfl
    | 14, _ => rfl
    | 15, _ => rfl
    | 16, _ => rfl
    | 17, _ => rfl
    | 18, _ => rfl
    | 19, _ => rfl
    | 20, _ => rfl
    | 21, _ => rfl
    | 22, _ => rfl
    | 23, _ => rfl
    | 24, _ => rfl
    | 25, _ => rfl
    | 26, _ => rfl
    | k + 27, _ => rfl
theorem jm_l7 {i : Nat} (hi : i < 12) : jv_al (jm_H m I A L rest z) (m + 4) .int (nI i) = some (.int (A 7 i)) := jv_al_of (jm_cell (j := 4) rfl) rfl hi (by decide)
theorem jm_s7 {i : Nat} {v : Int32} (hi : i < 12) : jv_as (jm_H m I A L rest z) (m + 4) .int (nI i) (.int v) = some (jm_H m I (va_up A 7 (upd (A 7) i v)) L rest z) := by
  refine (jv_as_of (jm_cell (j := 4) rfl) (by decide) rfl hi (by decide)).trans (congrArg some (jm_upd (j := 4) rfl ?_ (fun k hk => ?_)))
  · refine congrArg (fun f => some (Sum.inr (0, 12, f))) ?_
    funext q
    by_cases hq : q = i <;> simp [updV, va_up, upd, hq]
  · match k, hk with
    | 0, _ => rfl
    | 1, _ => rfl
    | 2, _ => rfl
    | 3, _ => rfl
    | 4, hk => exact absurd rfl hk
    | 5, _ => rfl
    | 6, _ => rfl
    | 7, _ => rfl
    | 8, _ => rfl
    | 9, _ => rfl
    | 10, _ => rfl
    | 11, _ => rfl
    | 12, _ => rfl
    | 13, _ => rfl
    | 14, _ => rfl
    | 15, _ => rfl
    | 16, _ => rfl
    | 17, _ => rfl
    | 18, _ => rfl
    | 19, _ => rfl
    | 20, _ => rfl
    | 21, _ => rfl
    | 22, _ => rfl
    | 23, _ => rfl
    | 24, _ => rfl
    | 25, _ => rfl
    | 26, _ => rfl
    | k + 27, _ => rfl
theorem jm_l8 {i : Nat} (hi : i < 12) : jv_al (jm_H m I A L rest z) (m + 5) .int (nI i) = some (.int (A 8 i)) := jv_al_of (jm_cell (j := 5) rfl) rfl hi (by decide)
theorem jm_s8 {i : Nat} {v : Int32} (hi : i < 12) : jv_as (jm_H m I A L rest z) (m + 5) .int (nI i) (.int v) = some (jm_H m I (va_up A 8 (upd (A 8) i v)) L rest z) := by
  refine (jv_as_of (jm_cell (j := 5) rfl) (by decide) rfl hi (by decide)).trans (congrArg some (jm_upd (j := 5) rfl ?_ (fun k hk => ?_)))
  · refine congrArg (fun f => some (Sum.inr (0, 12, f))) ?_
    funext q
    by_cases hq : q = i <;> simp [updV, va_up, upd, hq]
  · match k, hk with
    | 0, _ => rfl
    | 1, _ => rfl
    | 2, _ => rfl
    | 3, _ => rfl
    | 4, _ => rfl
    | 5, hk => exact absurd rfl hk
    | 6, _ => rfl
    | 7, _ => rfl
    | 8, _ => rfl
    | 9, _ => rfl
    | 10, _ => rfl
    | 11, _ => rfl
    | 12, _ => rfl
    | 13, _ => rfl
    | 14, _ => rfl
    | 15, _ => rfl
    | 16, _ => rfl
    | 17, _ => rfl
    | 18, _ => rfl
    | 19, _ => rfl
    | 20, _ => rfl
    | 21, _ => rfl
    | 22, _ => rfl
    | 23, _ => rfl
    | 24, _ => rfl
    | 25, _ => rfl
    | 26, _ => rfl
    | k + 27, _ => rfl
theorem jm_l9 {i : Nat} (hi : i < 12) : jv_al (jm_H m I A L rest z) (m + 6) .int (nI i) = some (.int (A 9 i)) := jv_al_of (jm_cell (j := 6) rfl) rfl hi (by decide)
theorem jm_s9 {i : Nat} {v : Int32} (hi : i < 12) : jv_as (jm_H m I A L rest z) (m + 6) .int (nI i) (.int v) = some (jm_H m I (va_up A 9 (upd (A 9) i v)) L rest z) := by
  refine (jv_as_of (jm_cell (j := 6) rfl) (by decide) rfl hi (by decide)).trans (congrArg some (jm_upd (j := 6) rfl ?_ (fun k hk => ?_)))
  · refine congrArg (fun f => some (Sum.inr (0, 12, f))) ?_
    funext q
    by_cases hq : q = i <;> simp [updV, va_up, upd, hq]
  · match k, hk with
    | 0, _ => rfl
    | 1, _ => rfl
    | 2, _ => rfl
    | 3, _ => rfl
    | 4, _ => rfl
    | 5, _ => rfl
    | 6, hk => exact absurd rfl hk
    | 7, _ => rfl
    | 8, _ => rfl
    | 9, _ => rfl
    | 10, _ => rfl
    | 11, _ => rfl
    | 12, _ => rfl
    | 13, _ => rfl
    | 14, _ => rfl
    | 15, _ => rfl
    | 16, _ => rfl
    | 17, _ => rfl
    | 18, _ => rfl
    | 19, _ => rfl
    | 20, _ => rfl
    | 21, _ => rfl
    | 22, _ => rfl
    | 23, _ => rfl
    | 24, _ => rfl
    | 25, _ => rfl
    | 26, _ => rfl
    | k + 27, _ => rfl
theorem jm_l10 {i : Nat} (hi : i < 12) : jv_al (jm_H m I A L rest z) (m + 7) .long (nI i) = some (.long (L 10 i)) := jv_al_of (jm_cell (j := 7) rfl) rfl hi (by decide)
theorem jm_s10 {i : Nat} {v : Int64} (hi : i < 12) : jv_as (jm_H m I A L rest z) (m + 7) .long (nI i) (.long v) = some (jm_H m I A (va_up L 10 (vp_updL (L 10) i v)) rest z) := by
  refine (jv_as_of (jm_cell (j := 7) rfl) (by decide) rfl hi (by decide)).trans (congrArg some (jm_upd (j := 7) rfl ?_ (fun k hk => ?_)))
  · refine congrArg (fun f => some (Sum.inr (1, 12, f))) ?_
    funext q
    by_cases hq : q = i <;> simp [updV, va_up, vp_updL, hq]
  · match k, hk with
    | 0, _ => rfl
    | 1, _ => rfl
    | 2, _ => rfl
    | 3, _ => rfl
    | 4, _ => rfl
    | 5, _ => rfl
    | 6, _ => rfl
    | 7, hk => exact absurd rfl hk
    | 8, _ => rfl
    | 9, _ => rfl
    | 10, _ => rfl
    | 11, _ => rfl
    | 12, _ => rfl
    | 13, _ => rfl
    | 14, _ => rfl
    | 15, _ => rfl
    | 16, _ => rfl
    | 17, _ => rfl
    | 18, _ => rfl
    | 19, _ => rfl
    | 20, _ => rfl
    | 21, _ => rfl
    | 22, _ => rfl
    | 23, _ => rfl
    | 24, _ => rfl
    | 25, _ => rfl
    | 26, _ => rfl
    | k + 27, _ => rfl
theorem jm_l11 {i : Nat} (hi : i < 1536) : jv_al (jm_H m I A L rest z) (m + 8) .int (nI i) = some (.int (A 11 i)) := jv_al_of (jm_cell (j := 8) rfl) rfl hi (by decide)
theorem jm_s11 {i : Nat} {v : Int32} (hi : i < 1536) : jv_as (jm_H m I A L rest z) (m + 8) .int (nI i) (.int v) = some (jm_H m I (va_up A 11 (upd (A 11) i v)) L rest z) := by
  refine (jv_as_of (jm_cell (j := 8) rfl) (by decide) rfl hi (by decide)).trans (congrArg some (jm_upd (j := 8) rfl ?_ (fun k hk => ?_)))
  · refine congrArg (fun f => some (Sum.inr (0, 1536, f))) ?_
    funext q
    by_cases hq : q = i <;> simp [updV, va_up, upd, hq]
  · match k, hk with
    | 0, _ => rfl
    | 1, _ => rfl
    | 2, _ => rfl
    | 3, _ => rfl
    | 4, _ => rfl
    | 5, _ => rfl
    | 6, _ => rfl
    | 7, _ => rfl
    | 8, hk => exact absurd rfl hk
    | 9, _ => rfl
    | 10, _ => rfl
    | 11, _ => rfl
    | 12, _ => rfl
    | 13, _ => rfl
    | 14, _ => rfl
    | 15, _ => rfl
    | 16, _ => rfl
    | 17, _ => rfl
    | 18, _ => rfl
    | 19, _ => rfl
    | 20, _ => rfl
    | 21, _ => rfl
    | 22, _ => rfl
    | 23, _ => rfl
    | 24, _ => rfl
    | 25, _ => rfl
    | 26, _ => rfl
    | k + 27, _ => rfl
theorem jm_l12 {i : Nat} (hi : i < 12288) : jv_al (jm_H m I A L rest z) (m + 9) .long (nI i) = some (.long (L 12 i)) := jv_al_of (jm_cell (j := 9) rfl) rfl hi (by decide)
theorem jm_s12 {i : Nat} {v : Int64} (hi : i < 12288) : jv_as (jm_H m I A L rest z) (m + 9) .long (nI i) (.long v) = some (jm_H m I A (va_up L 12 (vp_updL (L 12) i v)) rest z) := by
  refine (jv_as_of (jm_cell (j := 9) rfl) (by decide) rfl hi (by decide)).trans (congrArg some (jm_upd (j := 9) rfl ?_ (fun k hk => ?_)))
  · refine congrArg (fun f => some (Sum.inr (1, 12288, f))) ?_
    funext q
    by_cases hq : q = i <;> simp [updV, va_up, vp_updL, hq]
  · match k, hk with
    | 0, _ => rfl
    | 1, _ => rfl
    | 2, _ => rfl
    | 3, _ => rfl
    | 4, _ => rfl
    | 5, _ => rfl
    | 6, _ => rfl
    | 7, _ => rfl
    | 8, _ => rfl
    | 9, hk => exact absurd rfl hk
    | 10, _ => rfl
    | 11, _ => rfl
    | 12, _ => rfl
    | 13, _ => rfl
    | 14, _ => rfl
    | 15, _ => rfl
    | 16, _ => rfl
    | 17, _ => rfl
    | 18, _ => rfl
    | 19, _ => rfl
    | 20, _ => rfl
    | 21, _ => rfl
    | 22, _ => rfl
    | 23, _ => rfl
    | 24, _ => rfl
    | 25, _ => rfl
    | 26, _ => rfl
    | k + 27, _ => rfl
theorem jm_l13 {i : Nat} (hi : i < 24000) : jv_al (jm_H m I A L rest z) (m + 10) .int (nI i) = some (.int (A 13 i)) := jv_al_of (jm_cell (j := 10) rfl) rfl hi (by decide)
theorem jm_s13 {i : Nat} {v : Int32} (hi : i < 24000) : jv_as (jm_H m I A L rest z) (m + 10) .int (nI i) (.int v) = some (jm_H m I (va_up A 13 (upd (A 13) i v)) L rest z) := by
  refine (jv_as_of (jm_cell (j := 10) rfl) (by decide) rfl hi (by decide)).trans (congrArg some (jm_upd (j := 10) rfl ?_ (fun k hk => ?_)))
  · refine congrArg (fun f => some (Sum.inr (0, 24000, f))) ?_
    funext q
    by_cases hq : q = i <;> simp [updV, va_up, upd, hq]
  · match k, hk with
    | 0, _ => rfl
    | 1, _ => rfl
    | 2, _ => rfl
    | 3, _ => rfl
    | 4, _ => rfl
    | 5, _ => rfl
    | 6, _ => rfl
    | 7, _ => rfl
    | 8, _ => rfl
    | 9, _ => rfl
    | 10, hk => exact absurd rfl hk
    | 11, _ => rfl
    | 12, _ => rfl
    | 13, _ => rfl
    | 14, _ => rfl
    | 15, _ => rfl
    | 16, _ => rfl
    | 17, _ => rfl
    | 18, _ => rfl
    | 19, _ => rfl
    | 20, _ => rfl
    | 21, _ => rfl
    | 22, _ => rfl
    | 23, _ => rfl
    | 24, _ => rfl
    | 25, _ => rfl
    | 26, _ => rfl
    | k + 27, _ => rfl
theorem jm_l14 {i : Nat} (hi : i < 12) : jv_al (jm_H m I A L rest z) (m + 11) .int (nI i) = some (.int (A 14 i)) := jv_al_of (jm_cell (j := 11) rfl) rfl hi (by decide)
theorem jm_s14 {i : Nat} {v : Int32} (hi : i < 12) : jv_as (jm_H m I A L rest z) (m + 11) .int (nI i) (.int v) = some (jm_H m I (va_up A 14 (upd (A 14) i v)) L rest z) := by
  refine (jv_as_of (jm_cell (j := 11) rfl) (by decide) rfl hi (by decide)).trans (congrArg some (jm_upd (j := 11) rfl ?_ (fun k hk => ?_)))
  · refine congrArg (fun f => some (Sum.inr (0, 12, f))) ?_
    funext q
    by_cases hq : q = i <;> simp [updV, va_up, upd, hq]
  · match k, hk with
    | 0, _ => rfl
    | 1, _ => rfl
    | 2, _ => rfl
    | 3, _ => rfl
    | 4, _ => rfl
    | 5, _ => rfl
    | 6, _ => rfl
    | 7, _ => rfl
    | 8, _ => rfl
    | 9, _ => rfl
    | 10, _ => rfl
    | 11, hk => exact absurd rfl hk
    | 12, _ => rfl
    | 13, _ => rfl
    | 14, _ => rfl
    | 15, _ => rfl
    | 16, _ => rfl
    | 17, _ => rfl
    | 18, _ => rfl
    | 19, _ => rfl
    | 20, _ => rfl
    | 21, _ => rfl
    | 22, _ => rfl
    | 23, _ => rfl
    | 24, _ => rfl
    | 25, _ => rfl
    | 26, _ => rfl
    | k + 27, _ => rfl
theorem jm_l15 {i : Nat} (hi : i < 12) : jv_al (jm_H m I A L rest z) (m + 12) .int (nI i) = some (.int (A 15 i)) := jv_al_of (jm_cell (j := 12) rfl) rfl hi (by decide)
theorem jm_s15 {i : Nat} {v : Int32} (hi : i < 12) : jv_as (jm_H m I A L rest z) (m + 12) .int (nI i) (.int v) = some (jm_H m I (va_up A 15 (upd (A 15) i v)) L rest z) := by
  refine (jv_as_of (jm_cell (j := 12) rfl) (by decide) rfl hi (by decide)).trans (congrArg some (jm_upd (j := 12) rfl ?_ (fun k hk => ?_)))
  · refine congrArg (fun f => some (Sum.inr (0, 12, f))) ?_
    funext q
    by_cases hq : q = i <;> simp [updV, va_up, upd, hq]
  · match k, hk with
    | 0, _ => rfl
    | 1, _ => rfl
    | 2, _ => rfl
    | 3, _ => rfl
    | 4, _ => rfl
    | 5, _ => rfl
    | 6, _ => rfl
    | 7, _ => rfl
    | 8, _ => rfl
    | 9, _ => rfl
    | 10, _ => rfl
    | 11, _ => rfl
    | 12, hk => exact absurd rfl hk
    | 13, _ => rfl
    | 14, _ => rfl
    | 15, _ => rfl
    | 16, _ => rfl
    | 17, _ => rfl
    | 18, _ => rfl
    | 19, _ => rfl
    | 20, _ => rfl
    | 21, _ => rfl
    | 22, _ => rfl
    | 23, _ => rfl
    | 24, _ => rfl
    | 25, _ => rfl
    | 26, _ => rfl
    | k + 27, _ => rfl
theorem jm_l16 {i : Nat} (hi : i < 4800) : jv_al (jm_H m I A L rest z) (m + 13) .int (nI i) = some (.int (A 16 i)) := jv_al_of (jm_cell (j := 13) rfl) rfl hi (by decide)
theorem jm_s16 {i : Nat} {v : Int32} (hi : i < 4800) : jv_as (jm_H m I A L rest z) (m + 13) .int (nI i) (.int v) = some (jm_H m I (va_up A 16 (upd (A 16) i v)) L rest z) := by
  refine (jv_as_of (jm_cell (j := 13) rfl) (by decide) rfl hi (by decide)).trans (congrArg some (jm_upd (j := 13) rfl ?_ (fun k hk => ?_)))
  · refine congrArg (fun f => some (Sum.inr (0, 4800, f))) ?_
    funext q
    by_cases hq : q = i <;> simp [updV, va_up, upd, hq]
  · match k, hk with
    | 0, _ => rfl
    | 1, _ => rfl
    | 2, _ => rfl
    | 3, _ => rfl
    | 4, _ => rfl
    | 5, _ => rfl
    | 6, _ => rfl
    | 7, _ => rfl
    | 8, _ => rfl
    | 9, _ => rfl
    | 10, _ => rfl
    | 11, _ => rfl
    | 12, _ => rfl
    | 13, hk => exact absurd rfl hk
    | 14, _ => rfl
    | 15, _ => rfl
    | 16, _ => rfl
    | 17, _ => rfl
    | 18, _ => rfl
    | 19, _ => rfl
    | 20, _ => rfl
    | 21, _ => rfl
    | 22, _ => rfl
    | 23, _ => rfl
    | 24, _ => rfl
    | 25, _ => rfl
    | 26, _ => rfl
    | k + 27, _ => rfl
theorem jm_l17 {i : Nat} (hi : i < 12) : jv_al (jm_H m I A L rest z) (m + 14) .int (nI i) = some (.int (A 17 i)) := jv_al_of (jm_cell (j := 14) rfl) rfl hi (by decide)
theorem jm_s17 {i : Nat} {v : Int32} (hi : i < 12) : jv_as (jm_H m I A L rest z) (m + 14) .int (nI i) (.int v) = some (jm_H m I (va_up A 17 (upd (A 17) i v)) L rest z) := by
  refine (jv_as_of (jm_cell (j := 14) rfl) (by decide) rfl hi (by decide)).trans (congrArg some (jm_upd (j := 14) rfl ?_ (fun k hk => ?_)))
  · refine congrArg (fun f => some (Sum.inr (0, 12, f))) ?_
    funext q
    by_cases hq : q = i <;> simp [updV, va_up, upd, hq]
  · match k, hk with
    | 0, _ => rfl
    | 1, _ => rfl
    | 2, _ => rfl
    | 3, _ => rfl
    | 4, _ => rfl
    | 5, _ => rfl
    | 6, _ => rfl
    | 7, _ => rfl
    | 8, _ => rfl
    | 9, _ => rfl
    | 10, _ => rfl
    | 11, _ => rfl
    | 12, _ => rfl
    | 13, _ => rfl
    | 14, hk => exact absurd rfl hk
    | 15, _ => rfl
    | 16, _ => rfl
    | 17, _ => rfl
    | 18, _ => rfl
    | 19, _ => rfl
    | 20, _ => rfl
    | 21, _ => rfl
    | 22, _ => rfl
    | 23, _ => rfl
    | 24, _ => rfl
    | 25, _ => rfl
    | 26, _ => rfl
    | k + 27, _ => rfl
theorem jm_l18 {i : Nat} (hi : i < 12) : jv_al (jm_H m I A L rest z) (m + 15) .int (nI i) = some (.int (A 18 i)) := jv_al_of (jm_cell (j := 15) rfl) rfl hi (by decide)
theorem jm_s18 {i : Nat} {v : Int32} (hi : i < 12) : jv_as (jm_H m I A L rest z) (m + 15) .int (nI i) (.int v) = some (jm_H m I (va_up A 18 (upd (A 18) i v)) L rest z) := by
  refine (jv_as_of (jm_cell (j := 15) rfl) (by decide) rfl hi (by decide)).trans (congrArg some (jm_upd (j := 15) rfl ?_ (fun k hk => ?_)))
  · refine congrArg (fun f => some (Sum.inr (0, 12, f))) ?_
    funext q
    by_cases hq : q = i <;> simp [updV, va_up, upd, hq]
  · match k, hk with
    | 0, _ => rfl
    | 1, _ => rfl
    | 2, _ => rfl
    | 3, _ => rfl
    | 4, _ => rfl
    | 5, _ => rfl
    | 6, _ => rfl
    | 7, _ => rfl
    | 8, _ => rfl
    | 9, _ => rfl
    | 10, _ => rfl
    | 11, _ => rfl
    | 12, _ => rfl
    | 13, _ => rfl
    | 14, _ => rfl
    | 15, hk => exact absurd rfl hk
    | 16, _ => rfl
    | 17, _ => rfl
    | 18, _ => rfl
    | 19, _ => rfl
    | 20, _ => rfl
    | 21, _ => rfl
    | 22, _ => rfl
    | 23, _ => rfl
    | 24, _ => rfl
    | 25, _ => rfl
    | 26, _ => rfl
    | k + 27, _ => rfl
theorem jm_l19 {i : Nat} (hi : i < 12) : jv_al (jm_H m I A L rest z) (m + 16) .int (nI i) = some (.int (A 19 i)) := jv_al_of (jm_cell (j := 16) rfl) rfl hi (by decide)
theorem jm_s19 {i : Nat} {v : Int32} (hi : i < 12) : jv_as (jm_H m I A L rest z) (m + 16) .int (nI i) (.int v) = some (jm_H m I (va_up A 19 (upd (A 19) i v)) L rest z) := by
  refine (jv_as_of (jm_cell (j := 16) rfl) (by decide) rfl hi (by decide)).trans (congrArg some (jm_upd (j := 16) rfl ?_ (fun k hk => ?_)))
  · refine congrArg (fun f => some (Sum.inr (0, 12, f))) ?_
    funext q
    by_cases hq : q = i <;> simp [updV, va_up, upd, hq]
  · match k, hk with
    | 0, _ => rfl
    | 1, _ => rfl
    | 2, _ => rfl
    | 3, _ => rfl
    | 4, _ => rfl
    | 5, _ => rfl
    | 6, _ => rfl
    | 7, _ => rfl
    | 8, _ => rfl
    | 9, _ => rfl
    | 10, _ => rfl
    | 11, _ => rfl
    | 12, _ => rfl
    | 13, _ => rfl
    | 14, _ => rfl
    | 15, _ => rfl
    | 16, hk => exact absurd rfl hk
    | 17, _ => rfl
    | 18, _ => rfl
    | 19, _ => rfl
    | 20, _ => rfl
    | 21, _ => rfl
    | 22, _ => rfl
    | 23, _ => rfl
    | 24, _ => rfl
    | 25, _ => rfl
    | 26, _ => rfl
    | k + 27, _ => rfl
theorem jm_l20 {i : Nat} (hi : i < 768) : jv_al (jm_H m I A L rest z) (m + 17) .boolean (nI i) = some (.int (A 20 i)) := jv_al_of (jm_cell (j := 17) rfl) rfl hi (by decide)
theorem jm_s20 {i : Nat} {v : Int32} (hi : i < 768) : jv_as (jm_H m I A L rest z) (m + 17) .boolean (nI i) (.int v) = some (jm_H m I (va_up A 20 (upd (A 20) i v)) L rest z) := by
  refine (jv_as_of (jm_cell (j := 17) rfl) (by decide) rfl hi (by decide)).trans (congrArg some (jm_upd (j := 17) rfl ?_ (fun k hk => ?_)))
  · refine congrArg (fun f => some (Sum.inr (2, 768, f))) ?_
    funext q
    by_cases hq : q = i <;> simp [updV, va_up, upd, hq]
  · match k, hk with
    | 0, _ => rfl
    | 1, _ => rfl
    | 2, _ => rfl
    | 3, _ => rfl
    | 4, _ => rfl
    | 5, _ => rfl
    | 6, _ => rfl
    | 7, _ => rfl
    | 8, _ => rfl
    | 9, _ => rfl
    | 10, _ => rfl
    | 11, _ => rfl
    | 12, _ => rfl
    | 13, _ => rfl
    | 14, _ => rfl
    | 15, _ => rfl
    | 16, _ => rfl
    | 17, hk => exact absurd rfl hk
    | 18, _ => rfl
    | 19, _ => rfl
    | 20, _ => rfl
    | 21, _ => rfl
    | 22, _ => rfl
    | 23, _ => rfl
    | 24, _ => rfl
    | 25, _ => rfl
    | 26, _ => rfl
    | k + 27, _ => rfl
theorem jm_l21 {i : Nat} (hi : i < 768) : jv_al (jm_H m I A L rest z) (m + 18) .int (nI i) = some (.int (A 21 i)) := jv_al_of (jm_cell (j := 18) rfl) rfl hi (by decide)
theorem jm_s21 {i : Nat} {v : Int32} (hi : i < 768) : jv_as (jm_H m I A L rest z) (m + 18) .int (nI i) (.int v) = some (jm_H m I (va_up A 21 (upd (A 21) i v)) L rest z) := by
  refine (jv_as_of (jm_cell (j := 18) rfl) (by decide) rfl hi (by decide)).trans (congrArg some (jm_upd (j := 18) rfl ?_ (fun k hk => ?_)))
  · refine congrArg (fun f => some (Sum.inr (0, 768, f))) ?_
    funext q
    by_cases hq : q = i <;> simp [updV, va_up, upd, hq]
  · match k, hk with
    | 0, _ => rfl
    | 1, _ => rfl
    | 2, _ => rfl
    | 3, _ => rfl
    | 4, _ => rfl
    | 5, _ => rfl
    | 6, _ => rfl
    | 7, _ => rfl
    | 8, _ => rfl
    | 9, _ => rfl
    | 10, _ => rfl
    | 11, _ => rfl
    | 12, _ => rfl
    | 13, _ => rfl
    | 14, _ => rfl
    | 15, _ => rfl
    | 16, _ => rfl
    | 17, _ => rfl
    | 18, hk => exact absurd rfl hk
    | 19, _ => rfl
    | 20, _ => rfl
    | 21, _ => rfl
    | 22, _ => rfl
    | 23, _ => rfl
    | 24, _ => rfl
    | 25, _ => rfl
    | 26, _ => rfl
    | k + 27, _ => rfl
theorem jm_l23 {i : Nat} (hi : i < 17) : jv_al (jm_H m I A L rest z) (m + 19) .int (nI i) = some (.int (A 23 i)) := jv_al_of (jm_cell (j := 19) rfl) rfl hi (by decide)
theorem jm_s23 {i : Nat} {v : Int32} (hi : i < 17) : jv_as (jm_H m I A L rest z) (m + 19) .int (nI i) (.int v) = some (jm_H m I (va_up A 23 (upd (A 23) i v)) L rest z) := by
  refine (jv_as_of (jm_cell (j := 19) rfl) (by decide) rfl hi (by decide)).trans (congrArg some (jm_upd (j := 19) rfl ?_ (fun k hk => ?_)))
  · refine congrArg (fun f => some (Sum.inr (0, 17, f))) ?_
    funext q
    by_cases hq : q = i <;> simp [updV, va_up, upd, hq]
  · match k, hk with
    | 0, _ => rfl
    | 1, _ => rfl
    | 2, _ => rfl
    | 3, _ => rfl
    | 4, _ => rfl
    | 5, _ => rfl
    | 6, _ => rfl
    | 7, _ => rfl
    | 8, _ => rfl
    | 9, _ => rfl
    | 10, _ => rfl
    | 11, _ => rfl
    | 12, _ => rfl
    | 13, _ => rfl
    | 14, _ => rfl
    | 15, _ => rfl
    | 16, _ => rfl
    | 17, _ => rfl
    | 18, _ => rfl
    | 19, hk => exact absurd rfl hk
    | 20, _ => rfl
    | 21, _ => rfl
    | 22, _ => rfl
    | 23, _ => rfl
    | 24, _ => rfl
    | 25, _ => rfl
    | 26, _ => rfl
    | k + 27, _ => rfl
theorem jm_l24 {i : Nat} (hi : i < 17) : jv_al (jm_H m I A L rest z) (m + 20) .int (nI i) = some (.int (A 24 i)) := jv_al_of (jm_cell (j := 20) rfl) rfl hi (by decide)
theorem jm_s24 {i : Nat} {v : Int32} (hi : i < 17) : jv_as (jm_H m I A L rest z) (m + 20) .int (nI i) (.int v) = some (jm_H m I (va_up A 24 (upd (A 24) i v)) L rest z) := by
  refine (jv_as_of (jm_cell (j := 20) rfl) (by decide) rfl hi (by decide)).trans (congrArg some (jm_upd (j := 20) rfl ?_ (fun k hk => ?_)))
  · refine congrArg (fun f => some (Sum.inr (0, 17, f))) ?_
    funext q
    by_cases hq : q = i <;> simp [updV, va_up, upd, hq]
  · match k, hk with
    | 0, _ => rfl
    | 1, _ => rfl
    | 2, _ => rfl
    | 3, _ => rfl
    | 4, _ => rfl
    | 5, _ => rfl
    | 6, _ => rfl
    | 7, _ => rfl
    | 8, _ => rfl
    | 9, _ => rfl
    | 10, _ => rfl
    | 11, _ => rfl
    | 12, _ => rfl
    | 13, _ => rfl
    | 14, _ => rfl
    | 15, _ => rfl
    | 16, _ => rfl
    | 17, _ => rfl
    | 18, _ => rfl
    | 19, _ => rfl
    | 20, hk => exact absurd rfl hk
    | 21, _ => rfl
    | 22, _ => rfl
    | 23, _ => rfl
    | 24, _ => rfl
    | 25, _ => rfl
    | 26, _ => rfl
    | k + 27, _ => rfl
theorem jm_l25 {i : Nat} (hi : i < 17) : jv_al (jm_H m I A L rest z) (m + 21) .int (nI i) = some (.int (A 25 i)) := jv_al_of (jm_cell (j := 21) rfl) rfl hi (by decide)
theorem jm_s25 {i : Nat} {v : Int32} (hi : i < 17) : jv_as (jm_H m I A L rest z) (m + 21) .int (nI i) (.int v) = some (jm_H m I (va_up A 25 (upd (A 25) i v)) L rest z) := by
  refine (jv_as_of (jm_cell (j := 21) rfl) (by decide) rfl hi (by decide)).trans (congrArg some (jm_upd (j := 21) rfl ?_ (fun k hk => ?_)))
  · refine congrArg (fun f => some (Sum.inr (0, 17, f))) ?_
    funext q
    by_cases hq : q = i <;> simp [updV, va_up, upd, hq]
  · match k, hk with
    | 0, _ => rfl
    | 1, _ => rfl
    | 2, _ => rfl
    | 3, _ => rfl
    | 4, _ => rfl
    | 5, _ => rfl
    | 6, _ => rfl
    | 7, _ => rfl
    | 8, _ => rfl
    | 9, _ => rfl
    | 10, _ => rfl
    | 11, _ => rfl
    | 12, _ => rfl
    | 13, _ => rfl
    | 14, _ => rfl
    | 15, _ => rfl
    | 16, _ => rfl
    | 17, _ => rfl
    | 18, _ => rfl
    | 19, _ => rfl
    | 20, _ => rfl
    | 21, hk => exact absurd rfl hk
    | 22, _ => rfl
    | 23, _ => rfl
    | 24, _ => rfl
    | 25, _ => rfl
    | 26, _ => rfl
    | k + 27, _ => rfl
theorem jm_l26 {i : Nat} (hi : i < 17) : jv_al (jm_H m I A L rest z) (m + 22) .boolean (nI i) = some (.int (A 26 i)) := jv_al_of (jm_cell (j := 22) rfl) rfl hi (by decide)
theorem jm_s26 {i : Nat} {v : Int32} (hi : i < 17) : jv_as (jm_H m I A L rest z) (m + 22) .boolean (nI i) (.int v) = some (jm_H m I (va_up A 26 (upd (A 26) i v)) L rest z) := by
  refine (jv_as_of (jm_cell (j := 22) rfl) (by decide) rfl hi (by decide)).trans (congrArg some (jm_upd (j := 22) rfl ?_ (fun k hk => ?_)))
  · refine congrArg (fun f => some (Sum.inr (2, 17, f))) ?_
    funext q
    by_cases hq : q = i <;> simp [updV, va_up, upd, hq]
  · match k, hk with
    | 0, _ => rfl
    | 1, _ => rfl
    | 2, _ => rfl
    | 3, _ => rfl
    | 4, _ => rfl
    | 5, _ => rfl
    | 6, _ => rfl
    | 7, _ => rfl
    | 8, _ => rfl
    | 9, _ => rfl
    | 10, _ => rfl
    | 11, _ => rfl
    | 12, _ => rfl
    | 13, _ => rfl
    | 14, _ => rfl
    | 15, _ => rfl
    | 16, _ => rfl
    | 17, _ => rfl
    | 18, _ => rfl
    | 19, _ => rfl
    | 20, _ => rfl
    | 21, _ => rfl
    | 22, hk => exact absurd rfl hk
    | 23, _ => rfl
    | 24, _ => rfl
    | 25, _ => rfl
    | 26, _ => rfl
    | k + 27, _ => rfl
theorem jm_l27 {i : Nat} (hi : i < 17) : jv_al (jm_H m I A L rest z) (m + 23) .boolean (nI i) = some (.int (A 27 i)) := jv_al_of (jm_cell (j := 23) rfl) rfl hi (by decide)
theorem jm_s27 {i : Nat} {v : Int32} (hi : i < 17) : jv_as (jm_H m I A L rest z) (m + 23) .boolean (nI i) (.int v) = some (jm_H m I (va_up A 27 (upd (A 27) i v)) L rest z) := by
  refine (jv_as_of (jm_cell (j := 23) rfl) (by decide) rfl hi (by decide)).trans (congrArg some (jm_upd (j := 23) rfl ?_ (fun k hk => ?_)))
  · refine congrArg (fun f => some (Sum.inr (2, 17, f))) ?_
    funext q
    by_cases hq : q = i <;> simp [updV, va_up, upd, hq]
  · match k, hk with
    | 0, _ => rfl
    | 1, _ => rfl
    | 2, _ => rfl
    | 3, _ => rfl
    | 4, _ => rfl
    | 5, _ => rfl
    | 6, _ => rfl
    | 7, _ => rfl
    | 8, _ => rfl
    | 9, _ => rfl
    | 10, _ => rfl
    | 11, _ => rfl
    | 12, _ => rfl
    | 13, _ => rfl
    | 14, _ => rfl
    | 15, _ => rfl
    | 16, _ => rfl
    | 17, _ => rfl
    | 18, _ => rfl
    | 19, _ => rfl
    | 20, _ => rfl
    | 21, _ => rfl
    | 22, _ => rfl
    | 23, hk => exact absurd rfl hk
    | 24, _ => rfl
    | 25, _ => rfl
    | 26, _ => rfl
    | k + 27, _ => rfl
theorem jm_l28 {i : Nat} (hi : i < 64) : jv_al (jm_H m I A L rest z) (m + 24) .int (nI i) = some (.int (A 28 i)) := jv_al_of (jm_cell (j := 24) rfl) rfl hi (by decide)
theorem jm_s28 {i : Nat} {v : Int32} (hi : i < 64) : jv_as (jm_H m I A L rest z) (m + 24) .int (nI i) (.int v) = some (jm_H m I (va_up A 28 (upd (A 28) i v)) L rest z) := by
  refine (jv_as_of (jm_cell (j := 24) rfl) (by decide) rfl hi (by decide)).trans (congrArg some (jm_upd (j := 24) rfl ?_ (fun k hk => ?_)))
  · refine congrArg (fun f => some (Sum.inr (0, 64, f))) ?_
    funext q
    by_cases hq : q = i <;> simp [updV, va_up, upd, hq]
  · match k, hk with
    | 0, _ => rfl
    | 1, _ => rfl
    | 2, _ => rfl
    | 3, _ => rfl
    | 4, _ => rfl
    | 5, _ => rfl
    | 6, _ => rfl
    | 7, _ => rfl
    | 8, _ => rfl
    | 9, _ => rfl
    | 10, _ => rfl
    | 11, _ => rfl
    | 12, _ => rfl
    | 13, _ => rfl
    | 14, _ => rfl
    | 15, _ => rfl
    | 16, _ => rfl
    | 17, _ => rfl
    | 18, _ => rfl
    | 19, _ => rfl
    | 20, _ => rfl
    | 21, _ => rfl
    | 22, _ => rfl
    | 23, _ => rfl
    | 24, hk => exact absurd rfl hk
    | 25, _ => rfl
    | 26, _ => rfl
    | k + 27, _ => rfl
theorem jm_l29 {i : Nat} (hi : i < 18) : jv_al (jm_H m I A L rest z) (m + 25) .int (nI i) = some (.int (A 29 i)) := jv_al_of (jm_cell (j := 25) rfl) rfl hi (by decide)
theorem jm_s29 {i : Nat} {v : Int32} (hi : i < 18) : jv_as (jm_H m I A L rest z) (m + 25) .int (nI i) (.int v) = some (jm_H m I (va_up A 29 (upd (A 29) i v)) L rest z) := by
  refine (jv_as_of (jm_cell (j := 25) rfl) (by decide) rfl hi (by decide)).trans (congrArg some (jm_upd (j := 25) rfl ?_ (fun k hk => ?_)))
  · refine congrArg (fun f => some (Sum.inr (0, 18, f))) ?_
    funext q
    by_cases hq : q = i <;> simp [updV, va_up, upd, hq]
  · match k, hk with
    | 0, _ => rfl
    | 1, _ => rfl
    | 2, _ => rfl
    | 3, _ => rfl
    | 4, _ => rfl
    | 5, _ => rfl
    | 6, _ => rfl
    | 7, _ => rfl
    | 8, _ => rfl
    | 9, _ => rfl
    | 10, _ => rfl
    | 11, _ => rfl
    | 12, _ => rfl
    | 13, _ => rfl
    | 14, _ => rfl
    | 15, _ => rfl
    | 16, _ => rfl
    | 17, _ => rfl
    | 18, _ => rfl
    | 19, _ => rfl
    | 20, _ => rfl
    | 21, _ => rfl
    | 22, _ => rfl
    | 23, _ => rfl
    | 24, _ => rfl
    | 25, hk => exact absurd rfl hk
    | 26, _ => rfl
    | k + 27, _ => rfl
theorem jm_l30 {i : Nat} (hi : i < 18) : jv_al (jm_H m I A L rest z) (m + 26) .int (nI i) = some (.int (A 30 i)) := jv_al_of (jm_cell (j := 26) rfl) rfl hi (by decide)
theorem jm_s30 {i : Nat} {v : Int32} (hi : i < 18) : jv_as (jm_H m I A L rest z) (m + 26) .int (nI i) (.int v) = some (jm_H m I (va_up A 30 (upd (A 30) i v)) L rest z) := by
  refine (jv_as_of (jm_cell (j := 26) rfl) (by decide) rfl hi (by decide)).trans (congrArg some (jm_upd (j := 26) rfl ?_ (fun k hk => ?_)))
  · refine congrArg (fun f => some (Sum.inr (0, 18, f))) ?_
    funext q
    by_cases hq : q = i <;> simp [updV, va_up, upd, hq]
  · match k, hk with
    | 0, _ => rfl
    | 1, _ => rfl
    | 2, _ => rfl
    | 3, _ => rfl
    | 4, _ => rfl
    | 5, _ => rfl
    | 6, _ => rfl
    | 7, _ => rfl
    | 8, _ => rfl
    | 9, _ => rfl
    | 10, _ => rfl
    | 11, _ => rfl
    | 12, _ => rfl
    | 13, _ => rfl
    | 14, _ => rfl
    | 15, _ => rfl
    | 16, _ => rfl
    | 17, _ => rfl
    | 18, _ => rfl
    | 19, _ => rfl
    | 20, _ => rfl
    | 21, _ => rfl
    | 22, _ => rfl
    | 23, _ => rfl
    | 24, _ => rfl
    | 25, _ => rfl
    | 26, hk => exact absurd rfl hk
    | k + 27, _ => rfl
theorem jm_cl : jv_cl (jm_H m I A L rest z) m = some 0 := by unfold jv_cl; rw [jm_cell0 rfl]
end JMH
