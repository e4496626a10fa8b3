/-! cells laid one behind another from a place on -/
def jv_ups (f : Nat → Option jv_C) (b : Nat) (cs : List jv_C) : Nat → Option jv_C := fun q => if q < b then f q else match cs[q - b]? with
  | some c => some c
  | none => f q
theorem jv_ups_nil (f : Nat → Option jv_C) (b : Nat) : jv_ups f b [] = f := by
  funext q
  unfold jv_ups
  split <;> rfl
theorem jv_ups_at {f : Nat → Option jv_C} {b k : Nat} {cs : List jv_C} {c : jv_C} (h : cs[k]? = some c) : jv_ups f b cs (b + k) = some c := by
  unfold jv_ups
  rw [if_neg (by omega), Nat.add_sub_cancel_left, h]
theorem jv_ups_push (f : Nat → Option jv_C) (b : Nat) (cs : List jv_C) (c : jv_C) {k : Nat} (hk : cs.length = k) : jv_up (jv_ups f b cs) (b + k) c = jv_ups f b (cs ++ [c]) := by
  subst hk
  funext q
  unfold jv_up jv_ups
  by_cases h1 : q = b + cs.length
  · subst h1
    rw [if_pos rfl, if_neg (by omega), Nat.add_sub_cancel_left, List.getElem?_append_right (Nat.le_refl _), Nat.sub_self]
    rfl
  · rw [if_neg h1]
    by_cases h2 : q < b
    · rw [if_pos h2, if_pos h2]
    · rw [if_neg h2, if_neg h2]
      by_cases h3 : q - b < cs.length
      · rw [List.getElem?_append_left h3]
      · rw [List.getElem?_append_right (by omega), List.getElem?_eq_none (show cs.length ≤ q - b by omega), List.getElem?_eq_none (by simp; omega)]
theorem jv_ups_set (f : Nat → Option jv_C) (b : Nat) (cs : List jv_C) (c : jv_C) {k : Nat} (hk : k < cs.length) : jv_up (jv_ups f b cs) (b + k) c = jv_ups f b (cs.set k c) := by
  funext q
  unfold jv_up jv_ups
  by_cases h1 : q = b + k
  · subst h1
    rw [if_pos rfl, if_neg (by omega), Nat.add_sub_cancel_left, List.getElem?_set_self hk]
  · rw [if_neg h1]
    by_cases h2 : q < b
    · rw [if_pos h2, if_pos h2]
    · rw [if_neg h2, if_neg h2, List.getElem?_set_ne (by omega)]
/-- a heap with such cells as its last ones -/
def jv_U (f : Nat → Option jv_C) (b : Nat) (cs : List jv_C) (y : Nat) : jv_H := (jv_ups f b cs, b + cs.length, y)
theorem jv_U_new {f : Nat → Option jv_C} {b y ci : Nat} {cs : List jv_C} : jv_new (jv_U f b cs y) ci = jv_U f b (cs ++ [.inl (ci, jt_dfl ci)]) (y + (jt_dfl ci).length) := by
  unfold jv_new jv_U
  simp only [jv_ups_push f b cs _ rfl, List.length_append, List.length_cons, List.length_nil]
  rfl
theorem jv_U_newa {f : Nat → Option jv_C} {b y k n : Nat} {cs : List jv_C} {v : Value} : jv_newa (jv_U f b cs y) k n v = jv_U f b (cs ++ [.inr (k, n, fun _ => v)]) (y + n) := by
  unfold jv_newa jv_U
  simp only [jv_ups_push f b cs _ rfl, List.length_append, List.length_cons, List.length_nil]
  rfl
theorem jv_U_sz {f : Nat → Option jv_C} {b y : Nat} {cs : List jv_C} : (jv_U f b cs y).2.1 = b + cs.length := rfl
theorem jv_U_pf {f : Nat → Option jv_C} {b y k ci j : Nat} {cs : List jv_C} {fs : List Value} {v : Value} (h1 : cs[k]? = some (.inl (ci, fs))) (h2 : j < fs.length) (h3 : narrow (jt_fty ci j) v = v) (h4 : fits (jt_fty ci j) v = true) : jv_pf (jv_U f b cs y) (b + k) ci j v = some (jv_U f b (cs.set k (.inl (ci, fs.set j v))) y) := by
  refine (jv_pf_of (jv_ups_at h1) h2 h3 h4).trans (congrArg some ?_)
  unfold jv_U
  simp only [jv_ups_set f b cs _ (List.getElem?_eq_some_iff.mp h1).1, List.length_set]
theorem jv_U_cl {f : Nat → Option jv_C} {b y k ci : Nat} {cs : List jv_C} {fs : List Value} (h1 : cs[k]? = some (.inl (ci, fs))) : jv_cl (jv_U f b cs y) (b + k) = some ci := by
  unfold jv_cl
  rw [show (jv_U f b cs y).1 (b + k) = some (.inl (ci, fs)) from jv_ups_at h1]
def jv_isO (cs : List jv_C) (k ci : Nat) : Bool := match cs[k]? with
  | some (.inl (c, _)) => decide (c = ci)
  | _ => false
def jv_fl (cs : List jv_C) (k : Nat) : List Value := match cs[k]? with
  | some (.inl (_, fs)) => fs
  | _ => []
theorem jv_isO_at {cs : List jv_C} {k ci : Nat} (h : jv_isO cs k ci = true) : cs[k]? = some (.inl (ci, jv_fl cs k)) := by
  unfold jv_isO at h
  split at h
  · rename_i c fs hc
    have := of_decide_eq_true h
    subst this
    rw [hc]
    unfold jv_fl
    rw [hc]
  · cases h
theorem jv_U_pf0 {f : Nat → Option jv_C} {b y ci j : Nat} {cs : List jv_C} {v : Value} (h1 : jv_isO cs 0 ci = true) (h2 : j < (jv_fl cs 0).length) (h3 : narrow (jt_fty ci j) v = v) (h4 : fits (jt_fty ci j) v = true) : jv_pf (jv_U f b cs y) b ci j v = some (jv_U f b (cs.set 0 (.inl (ci, (jv_fl cs 0).set j v))) y) := jv_U_pf (k := 0) (jv_isO_at h1) h2 h3 h4
theorem jv_U_base {f : Nat → Option jv_C} {b y : Nat} {cs cs' : List jv_C} : jv_U f b (cs ++ cs') y = jv_U (jv_ups f b cs) (b + cs.length) cs' y := by
  unfold jv_U
  have e : b + (cs ++ cs').length = b + cs.length + cs'.length := by rw [List.length_append, Nat.add_assoc]
  rw [e]
  congr 1
  funext q
  unfold jv_ups
  by_cases h1 : q < b
  · rw [if_pos h1, if_pos (by omega), if_pos h1]
  · rw [if_neg h1]
    by_cases h2 : q - b < cs.length
    · rw [List.getElem?_append_left h2, if_pos (show q < b + cs.length by omega), if_neg h1]
    · rw [List.getElem?_append_right (by omega), if_neg (show ¬ q < b + cs.length by omega), if_neg h1, List.getElem?_eq_none (show cs.length ≤ q - b by omega), show q - (b + cs.length) = q - b - cs.length by omega]
