/-! the class's jobs and blocks: what stays true, and how much room they take -/
section JG
variable {ρ : jk_R} {h h' : jv_H}
def jg_E (h : jv_H) (a : Nat) : Prop := jv_gf h a 4 12 = some (.int 0)
def jg_B (h : jv_H) (a k : Nat) : Option Value := match jv_gf h a 4 6 with
  | some (.ref p) => jv_al h p (.object RX0) (nI k)
  | _ => none
def jg_R (h : jv_H) (x k : Nat) : Option Value := match jv_gf h x 6 3 with
  | some (.ref p) => jv_al h p (.object RX3) (nI k)
  | _ => none
def jg_nb (o : Option Value) : Bool := match o with
  | some .null => false
  | _ => true
def jg_nn (h : jv_H) (a : Nat) : Nat := jz_cnt (fun k => jg_nb (jg_B h a k)) 64
def jg_sum (c : Nat → Nat) : Nat → Nat
  | 0 => 0
  | n + 1 => jg_sum c n + c n
/-- the jobs: n of them, at js, the first m of them taken; c: how many blocks were made for each, at most 64 -/
def jg_J (ρ : jk_R) (h : jv_H) (x n m : Nat) (js c : Nat → Nat) : Prop :=
  n ≤ 12 ∧ jv_gf h x 6 4 = some (.int (nI m)) ∧
  (∀ i, i < n → ρ (js i) = some 4 ∧ (i < m → jg_R h x i = some (.ref (js i))) ∧ c i ≤ 64 ∧ (jg_E h (js i) → c i ≤ jg_nn h (js i))) ∧
  (∀ i j, i < n → j < n → js i = js j → i = j) ∧
  (∀ a, ρ a = some 4 → ∃ i, i < n ∧ js i = a) ∧
  (∀ a b p, ρ a = some 4 → ρ b = some 4 → jv_gf h a 4 6 = some (.ref p) → jv_gf h b 4 6 = some (.ref p) → a = b) ∧
  (∀ a k b, ρ a = some 4 → k < 64 → jg_B h a k = some (.ref b) → jv_gf h b 1 0 = some (.ref a))
/-- who is active has not ended -/
def jg_A (ρ : jk_R) (h : jv_H) : Prop := ∀ a, ρ a = some 4 → ¬ jv_gf h a 4 13 = some (.int 0) → jg_E h a
/-- the class's part of the heap, without jg_A; e0: how many jobs are there that are not yet taken -/
def jg_I (e0 b0 s0 : Nat) (ρ : jk_R) (h : jv_H) (x : Nat) : Prop := jk_Ok jc_RT ρ h ∧ ρ x = some 0 ∧ (∀ q, h.2.1 ≤ q → ρ q = none) ∧ ∃ (n : Nat) (js c : Nat → Nat), jg_J ρ h x (n + e0) n js c ∧ h.2.1 ≤ b0 + 6 * (n + e0) + jg_sum c (n + e0) ∧ h.2.2 ≤ s0 + 3632 * (n + e0) + 10 * jg_sum c (n + e0)
/-- roles grow; what has none is left alone -/
def jg_X (ρ : jk_R) (h : jv_H) (ρ' : jk_R) (h' : jv_H) : Prop := (∀ a q, ρ a = some q → ρ' a = some q) ∧ (∀ a, a < h.2.1 → ρ a = none → ρ' a = none ∧ h'.1 a = h.1 a) ∧ h.2.1 ≤ h'.2.1
theorem jg_X_rf : jg_X ρ h ρ h := ⟨fun _ _ e => e, fun _ _ e => ⟨e, rfl⟩, Nat.le_refl _⟩
theorem jg_X_tr {ρ1 ρ2 ρ3 : jk_R} {h1 h2 h3 : jv_H} (a : jg_X ρ1 h1 ρ2 h2) (b : jg_X ρ2 h2 ρ3 h3) : jg_X ρ1 h1 ρ3 h3 := by
  refine ⟨fun q r e => b.1 q r (a.1 q r e), fun q hq e => ?_, Nat.le_trans a.2.2 b.2.2⟩
  obtain ⟨e1, e2⟩ := a.2.1 q hq e
  obtain ⟨e3, e4⟩ := b.2.1 q (Nat.lt_of_lt_of_le hq a.2.2) e1
  exact ⟨e3, e4.trans e2⟩
theorem jg_X_fr {pr : Nat → Nat → Bool} (hF : jk_Fr pr ρ h h') : jg_X ρ h ρ h' := ⟨fun _ _ e => e, fun a _ e => ⟨e, hF.2.1 a e⟩, by rw [hF.1]; exact Nat.le_refl _⟩
theorem jg_kf {RT : List jk_D} {pr : Nat → Nat → Bool} {a q c k : Nat} (hO : jk_Ok RT ρ h) (hF : jk_Fr pr ρ h h') (ha : ρ a = some q) (hp : pr q k = true) : jv_gf h' a c k = jv_gf h a c k := by
  obtain ⟨d, c0, h1, h2, h3⟩ := hO a q ha
  obtain ⟨c', e2, hs⟩ := hF.2.2 a q _ ha h2
  unfold jv_gf
  rw [h2, e2]
  rcases c0 with ⟨ci, fs⟩ | ⟨kd, n, f⟩ <;> rcases c' with ⟨ci', fs'⟩ | ⟨kd', n', f'⟩
  · obtain ⟨rfl, _, hk⟩ := hs
    simp only
    rw [hk k hp]
  · exact hs.elim
  · exact hs.elim
  · rfl
theorem jg_ka {RT : List jk_D} {pr : Nat → Nat → Bool} {a q : Nat} {ty : FieldType} {j : Int32} (hO : jk_Ok RT ρ h) (hF : jk_Fr pr ρ h h') (ha : ρ a = some q) (hp : pr q 0 = true) : jv_al h' a ty j = jv_al h a ty j := by
  obtain ⟨d, c0, h1, h2, h3⟩ := hO a q ha
  obtain ⟨c', e2, hs⟩ := hF.2.2 a q _ ha h2
  unfold jv_al
  rw [h2, e2]
  rcases c0 with ⟨ci, fs⟩ | ⟨kd, n, f⟩ <;> rcases c' with ⟨ci', fs'⟩ | ⟨kd', n', f'⟩
  · rfl
  · exact hs.elim
  · exact hs.elim
  · obtain ⟨rfl, rfl, hk⟩ := hs
    rw [hk hp]
theorem jg_ref {a q c k r : Nat} {ts : List jk_T} (hO : jk_Ok jc_RT ρ h) (ha : ρ a = some q) (hr : jc_RT[q]? = some (.inl (c, ts))) (ht : ts[k]? = some (.inr (.inr (r, true)))) : ∃ p, jv_gf h a c k = some (.ref p) ∧ ρ p = some r := by
  obtain ⟨v, e, hv⟩ := jh_get hO ha hr ht
  obtain ⟨p, rfl, hp⟩ := jh_ref hv
  exact ⟨p, e, hp⟩
theorem jg_Bk (hO : jk_Ok jc_RT ρ h) (hF : jk_Fr jc_pr ρ h h') {a k : Nat} (ha : ρ a = some 4) : jg_B h' a k = jg_B h a k := by
  obtain ⟨p, e, hp⟩ := jg_ref (k := 6) hO ha rfl rfl
  have e' := jg_kf (c := 4) (k := 6) hO hF ha rfl
  unfold jg_B
  rw [e', e]
  exact jg_ka hO hF hp rfl
theorem jg_Rk (hO : jk_Ok jc_RT ρ h) (hF : jk_Fr jc_pr ρ h h') {x k : Nat} (hx : ρ x = some 0) : jg_R h' x k = jg_R h x k := by
  obtain ⟨p, e, hp⟩ := jg_ref (k := 3) hO hx rfl rfl
  have e' := jg_kf (c := 6) (k := 3) hO hF hx rfl
  unfold jg_R
  rw [e', e]
  exact jg_ka hO hF hp rfl
theorem jg_Ek (hO : jk_Ok jc_RT ρ h) (hF : jk_Fr jc_pr ρ h h') {a : Nat} (ha : ρ a = some 4) : jg_E h' a ↔ jg_E h a := by
  unfold jg_E
  rw [jg_kf (c := 4) (k := 12) hO hF ha rfl]
theorem jg_nnk (hO : jk_Ok jc_RT ρ h) (hF : jk_Fr jc_pr ρ h h') {a : Nat} (ha : ρ a = some 4) : jg_nn h' a = jg_nn h a := by
  unfold jg_nn
  congr 1
  funext k
  rw [jg_Bk hO hF ha]
/-- a block in a job's row has the block's role -/
theorem jg_Br (hO : jk_Ok jc_RT ρ h) {a k b : Nat} (ha : ρ a = some 4) (e : jg_B h a k = some (.ref b)) : ρ b = some 5 := by
  obtain ⟨p, e1, hp⟩ := jg_ref (k := 6) hO ha rfl rfl
  unfold jg_B at e
  rw [e1] at e
  obtain ⟨d, c, g1, g2, g3⟩ := hO p 14 hp
  cases g1
  rcases c with ⟨ci2, fs⟩ | ⟨kd2, n, f⟩
  · exact g3.elim
  · obtain ⟨rfl, hlo, hle, hf⟩ := g3
    simp only [jv_al, g2] at e
    split at e
    · simp only [Option.some.injEq] at e
      have := hf (nI k).toNatClampNeg
      rw [e] at this
      rcases this with ⟨_, q⟩ | ⟨b', q, hb⟩
      · cases q
      · cases q; exact hb
    · cases e
theorem jg_Jk {x n m : Nat} {js c : Nat → Nat} (hO : jk_Ok jc_RT ρ h) (hx : ρ x = some 0) (hF : jk_Fr jc_pr ρ h h') (hJ : jg_J ρ h x n m js c) : jg_J ρ h' x n m js c := by
  obtain ⟨h1, h2, h3, h4, h5, h6, h7⟩ := hJ
  refine ⟨h1, by rw [jg_kf (k := 4) hO hF hx rfl]; exact h2, fun i hi => ?_, h4, h5, fun a b p ha hb e e' => ?_, fun a k b ha hk e => ?_⟩
  · obtain ⟨a1, a2, a3, a4⟩ := h3 i hi
    refine ⟨a1, fun hm => by rw [jg_Rk hO hF hx]; exact a2 hm, a3, fun e => ?_⟩
    rw [jg_nnk hO hF a1]
    exact a4 ((jg_Ek hO hF a1).mp e)
  · rw [jg_kf (k := 6) hO hF ha rfl] at e
    rw [jg_kf (k := 6) hO hF hb rfl] at e'
    exact h6 a b p ha hb e e'
  · rw [jg_Bk hO hF ha] at e
    rw [jg_kf (k := 0) hO hF (jg_Br hO ha e) rfl]
    exact h7 a k b ha hk e
theorem jg_Ak (hO : jk_Ok jc_RT ρ h) (hF : jk_Fr jc_pr ρ h h') (hA : jg_A ρ h) : jg_A ρ h' := by
  intro a ha e
  rw [jg_kf (k := 13) hO hF ha rfl] at e
  exact (jg_Ek hO hF ha).mpr (hA a ha e)
/-- a leaf method keeps it all -/
theorem jg_Ik {e0 b0 s0 x : Nat} (hI : jg_I e0 b0 s0 ρ h x) (hO' : jk_Ok jc_RT ρ h') (hF : jk_Fr jc_pr ρ h h') : jg_I e0 b0 s0 ρ h' x := by
  obtain ⟨hO, hx, hn, n, js, c, hJ, r1, r2⟩ := hI
  exact ⟨hO', hx, by rw [hF.1]; exact hn, n, js, c, jg_Jk hO hx hF hJ, by rw [hF.1]; exact r1, by rw [hF.1]; exact r2⟩
theorem jg_sum_up {c : Nat → Nat} {i v : Nat} : ∀ n, jg_sum (va_up c i v) n + (if i < n then c i else 0) = jg_sum c n + if i < n then v else 0
  | 0 => by simp [jg_sum]
  | n + 1 => by
    have ih := jg_sum_up (c := c) (i := i) (v := v) n
    unfold jg_sum
    by_cases e : n = i
    · subst e
      rw [jz_us]
      have a1 : ¬ n < n := by omega
      have a2 : n < n + 1 := by omega
      simp only [a1, a2, if_true, if_false] at ih ⊢
      omega
    · rw [jz_un e]
      by_cases hi : i < n
      · have a2 : i < n + 1 := by omega
        simp only [hi, a2, if_true] at ih ⊢
        omega
      · have a2 : ¬ i < n + 1 := by omega
        simp only [hi, a2, if_false] at ih ⊢
        omega
end JG
