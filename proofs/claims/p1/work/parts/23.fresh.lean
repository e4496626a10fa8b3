/-! the class's cells (ten of them, from x on) beside the reference's (from x + 10 on) -/
section JP
variable {x y d : Nat} {f : Nat → Option jv_C} {cs : List jv_C} {I : Nat → Int32} {A : Nat → Nat → Int32} {L : Nat → Nat → Int64} {z : Nat × Nat} {k ci j : Nat}
abbrev jp_H (x : Nat) (f : Nat → Option jv_C) (cs : List jv_C) (I : Nat → Int32) (A : Nat → Nat → Int32) (L : Nat → Nat → Int64) (z : Nat × Nat) : jv_H := jm_H (x + 10) I A L (jv_ups f x cs) z
theorem jp_at {c : jv_C} (hk : k < 10) (h : cs[k]? = some c) : (jp_H x f cs I A L z).1 (x + k) = some c := by
  show jm_map (x + 10) I A L (jv_ups f x cs) (x + k) = some c
  unfold jm_map jm_in
  rw [if_pos (by omega)]
  exact jv_ups_at h
theorem jp_up {c : jv_C} (hk : k < 10) (hl : k < cs.length) : (jv_up (jp_H x f cs I A L z).1 (x + k) c, (jp_H x f cs I A L z).2) = jp_H x f (cs.set k c) I A L z := by
  show (_, z) = (_, z)
  congr 1
  funext q
  show (if q = x + k then some c else jm_map (x + 10) I A L (jv_ups f x cs) q) = jm_map (x + 10) I A L (jv_ups f x (cs.set k c)) q
  unfold jm_map
  by_cases h1 : q = x + k
  · subst h1
    rw [if_pos rfl]
    unfold jm_in
    rw [if_pos (by omega)]
    exact (jv_ups_at (List.getElem?_set_self hl)).symm
  · rw [if_neg h1]
    cases jm_in (x + 10) I A L q with
    | some c' => rfl
    | none =>
      show jv_ups f x cs q = jv_ups f x (cs.set k c) q
      rw [← jv_ups_set f x cs c hl]
      unfold jv_up
      rw [if_neg h1]
theorem jp_gf (hk : k < 10) (h : jv_isO cs k ci = true) : jv_gf (jp_H x f cs I A L z) (x + k) ci j = (jv_fl cs k)[j]? := by
  unfold jv_gf
  rw [jp_at hk (jv_isO_at h)]
  exact if_pos rfl
theorem jp_gf0 (h : jv_isO cs 0 ci = true) : jv_gf (jp_H x f cs I A L z) x ci j = (jv_fl cs 0)[j]? := jp_gf (k := 0) (by decide) h
theorem jp_pf {v : Value} (hk : k < 10) (h : jv_isO cs k ci = true) (h2 : j < (jv_fl cs k).length) (h3 : narrow (jt_fty ci j) v = v) (h4 : fits (jt_fty ci j) v = true) : jv_pf (jp_H x f cs I A L z) (x + k) ci j v = some (jp_H x f (cs.set k (.inl (ci, (jv_fl cs k).set j v))) I A L z) :=
  (jv_pf_of (jp_at hk (jv_isO_at h)) h2 h3 h4).trans (congrArg some (jp_up hk (List.getElem?_eq_some_iff.mp (jv_isO_at h)).1))
theorem jp_cl (hk : k < 10) (h : jv_isO cs k ci = true) : jv_cl (jp_H x f cs I A L z) (x + k) = some ci := by
  unfold jv_cl
  rw [jp_at hk (jv_isO_at h)]
theorem jp_cl0 (h : jv_isO cs 0 ci = true) : jv_cl (jp_H x f cs I A L z) x = some ci := jp_cl (k := 0) (by decide) h
/-- the class's cells: the tray's numbers and rows are variables, all else is new -/
def jp_M (x : Nat) (wc bc : Int32) (W : Nat → Int64) (B : Nat → Int32) : List jv_C := [.inl (6, [.ref (x + 1), .ref (x + 4), .ref (x + 6), .ref (x + 9), .int (nI 0), .int (nI 0), .int (nI 0), .int (-1), .int (nI 0), .int (nI 0), .int (nI 0), .int (nI 0)]), .inl (5, [.ref (x + 2), .ref (x + 3), .int wc, .int bc]), .inr (1, 1000, fun i => .long (W i)), .inr (0, 2000, fun i => .int (B i)), .inl (2, [.ref (x + 5), .int (nI 7), .int (nI 7), .int (nI 0)]), .inr (3, 17, fun _ => .null), .inl (3, [.ref (x + 7), .ref (x + 8), .int (nI 0), .null, .int (nI 0), .int (nI 0), .int (nI 0), .int (nI 0)]), .inr (3, 64, fun _ => .null), .inr (3, 17, fun _ => .null), .inr (4, 12, fun _ => .null)]
theorem jp_M0 : jc_mach x = jp_M x (nI 0) (nI 0) (fun _ => 0) (fun _ => 0) := rfl
section JP2
variable {wc bc : Int32} {W : Nat → Int64} {B : Nat → Int32}
theorem jp_g0_0 : jv_gf (jp_H x f (jp_M x wc bc W B) I A L z) x 6 0 = some (.ref (x + 1)) := (jp_gf0 rfl).trans rfl
theorem jp_g0_1 : jv_gf (jp_H x f (jp_M x wc bc W B) I A L z) x 6 1 = some (.ref (x + 4)) := (jp_gf0 rfl).trans rfl
theorem jp_g0_2 : jv_gf (jp_H x f (jp_M x wc bc W B) I A L z) x 6 2 = some (.ref (x + 6)) := (jp_gf0 rfl).trans rfl
theorem jp_g0_3 : jv_gf (jp_H x f (jp_M x wc bc W B) I A L z) x 6 3 = some (.ref (x + 9)) := (jp_gf0 rfl).trans rfl
theorem jp_g0_4 : jv_gf (jp_H x f (jp_M x wc bc W B) I A L z) x 6 4 = some (.int (nI 0)) := (jp_gf0 rfl).trans rfl
theorem jp_g0_5 : jv_gf (jp_H x f (jp_M x wc bc W B) I A L z) x 6 5 = some (.int (nI 0)) := (jp_gf0 rfl).trans rfl
theorem jp_g0_6 : jv_gf (jp_H x f (jp_M x wc bc W B) I A L z) x 6 6 = some (.int (nI 0)) := (jp_gf0 rfl).trans rfl
theorem jp_g0_7 : jv_gf (jp_H x f (jp_M x wc bc W B) I A L z) x 6 7 = some (.int (-1)) := (jp_gf0 rfl).trans rfl
theorem jp_g0_8 : jv_gf (jp_H x f (jp_M x wc bc W B) I A L z) x 6 8 = some (.int (nI 0)) := (jp_gf0 rfl).trans rfl
theorem jp_g0_9 : jv_gf (jp_H x f (jp_M x wc bc W B) I A L z) x 6 9 = some (.int (nI 0)) := (jp_gf0 rfl).trans rfl
theorem jp_g0_10 : jv_gf (jp_H x f (jp_M x wc bc W B) I A L z) x 6 10 = some (.int (nI 0)) := (jp_gf0 rfl).trans rfl
theorem jp_g0_11 : jv_gf (jp_H x f (jp_M x wc bc W B) I A L z) x 6 11 = some (.int (nI 0)) := (jp_gf0 rfl).trans rfl
theorem jp_g1_0 : jv_gf (jp_H x f (jp_M x wc bc W B) I A L z) (x + 1) 5 0 = some (.ref (x + 2)) := (jp_gf (by decide) rfl).trans rfl
theorem jp_g1_1 : jv_gf (jp_H x f (jp_M x wc bc W B) I A L z) (x + 1) 5 1 = some (.ref (x + 3)) := (jp_gf (by decide) rfl).trans rfl
theorem jp_g1_2 : jv_gf (jp_H x f (jp_M x wc bc W B) I A L z) (x + 1) 5 2 = some (.int wc) := (jp_gf (by decide) rfl).trans rfl
theorem jp_g1_3 : jv_gf (jp_H x f (jp_M x wc bc W B) I A L z) (x + 1) 5 3 = some (.int bc) := (jp_gf (by decide) rfl).trans rfl
theorem jp_g4_0 : jv_gf (jp_H x f (jp_M x wc bc W B) I A L z) (x + 4) 2 0 = some (.ref (x + 5)) := (jp_gf (by decide) rfl).trans rfl
theorem jp_g4_1 : jv_gf (jp_H x f (jp_M x wc bc W B) I A L z) (x + 4) 2 1 = some (.int (nI 7)) := (jp_gf (by decide) rfl).trans rfl
theorem jp_g4_2 : jv_gf (jp_H x f (jp_M x wc bc W B) I A L z) (x + 4) 2 2 = some (.int (nI 7)) := (jp_gf (by decide) rfl).trans rfl
theorem jp_g4_3 : jv_gf (jp_H x f (jp_M x wc bc W B) I A L z) (x + 4) 2 3 = some (.int (nI 0)) := (jp_gf (by decide) rfl).trans rfl
theorem jp_g6_0 : jv_gf (jp_H x f (jp_M x wc bc W B) I A L z) (x + 6) 3 0 = some (.ref (x + 7)) := (jp_gf (by decide) rfl).trans rfl
theorem jp_g6_1 : jv_gf (jp_H x f (jp_M x wc bc W B) I A L z) (x + 6) 3 1 = some (.ref (x + 8)) := (jp_gf (by decide) rfl).trans rfl
theorem jp_g6_2 : jv_gf (jp_H x f (jp_M x wc bc W B) I A L z) (x + 6) 3 2 = some (.int (nI 0)) := (jp_gf (by decide) rfl).trans rfl
theorem jp_g6_3 : jv_gf (jp_H x f (jp_M x wc bc W B) I A L z) (x + 6) 3 3 = some (.null) := (jp_gf (by decide) rfl).trans rfl
theorem jp_g6_4 : jv_gf (jp_H x f (jp_M x wc bc W B) I A L z) (x + 6) 3 4 = some (.int (nI 0)) := (jp_gf (by decide) rfl).trans rfl
theorem jp_g6_5 : jv_gf (jp_H x f (jp_M x wc bc W B) I A L z) (x + 6) 3 5 = some (.int (nI 0)) := (jp_gf (by decide) rfl).trans rfl
theorem jp_g6_6 : jv_gf (jp_H x f (jp_M x wc bc W B) I A L z) (x + 6) 3 6 = some (.int (nI 0)) := (jp_gf (by decide) rfl).trans rfl
theorem jp_g6_7 : jv_gf (jp_H x f (jp_M x wc bc W B) I A L z) (x + 6) 3 7 = some (.int (nI 0)) := (jp_gf (by decide) rfl).trans rfl
theorem jp_cX : jv_cl (jp_H x f (jp_M x wc bc W B) I A L z) x = some 6 := jp_cl0 rfl
theorem jp_cT : jv_cl (jp_H x f (jp_M x wc bc W B) I A L z) (x + 1) = some 5 := jp_cl (by decide) rfl
theorem jp_cC : jv_cl (jp_H x f (jp_M x wc bc W B) I A L z) (x + 4) = some 2 := jp_cl (by decide) rfl
theorem jp_cD : jv_cl (jp_H x f (jp_M x wc bc W B) I A L z) (x + 6) = some 3 := jp_cl (by decide) rfl
theorem jp_sW {v : Int32} : jv_pf (jp_H x f (jp_M x wc bc W B) I A L z) (x + 1) 5 2 (.int v) = some (jp_H x f (jp_M x v bc W B) I A L z) := jp_pf (by decide) rfl (Nat.le_of_ble_eq_true rfl) rfl rfl
theorem jp_sB {v : Int32} : jv_pf (jp_H x f (jp_M x wc bc W B) I A L z) (x + 1) 5 3 (.int v) = some (jp_H x f (jp_M x wc v W B) I A L z) := jp_pf (by decide) rfl (Nat.le_of_ble_eq_true rfl) rfl rfl
theorem jp_aW {i : Nat} {v : Int64} (hi : i < 1000) : jv_as (jp_H x f (jp_M x wc bc W B) I A L z) (x + 2) .long (nI i) (.long v) = some (jp_H x f (jp_M x wc bc (vp_updL W i v) B) I A L z) := by
  refine (jv_as_of (jp_at (k := 2) (by decide) rfl) (by decide) rfl hi (by decide)).trans (congrArg some ((jp_up (k := 2) (by decide) (Nat.le_of_ble_eq_true rfl)).trans ?_))
  have e : (updV (fun i => Value.long (W i)) i (Value.long v)) = fun q => Value.long (vp_updL W i v q) := by
    funext q
    by_cases hq : q = i <;> simp [updV, vp_updL, hq]
  rw [e]
  rfl
theorem jp_aB {i : Nat} {v : Int32} (hi : i < 2000) : jv_as (jp_H x f (jp_M x wc bc W B) I A L z) (x + 3) .int (nI i) (.int v) = some (jp_H x f (jp_M x wc bc W (upd B i v)) I A L z) := by
  refine (jv_as_of (jp_at (k := 3) (by decide) rfl) (by decide) rfl hi (by decide)).trans (congrArg some ((jp_up (k := 3) (by decide) (Nat.le_of_ble_eq_true rfl)).trans ?_))
  have e : (updV (fun i => Value.int (B i)) i (Value.int v)) = fun q => Value.int (upd B i v q) := by
    funext q
    by_cases hq : q = i <;> simp [updV, upd, hq]
  rw [e]
  rfl
end JP2
end JP
