/-! a call of both sides -/
section JW
variable {ρ ρ' : jk_R} {h h1 h2 : jv_H} {b0 s0 b1 s1 x m b N : Nat} {xs : Nat → Int32} {I I' : Nat → Int32} {A A' : Nat → Nat → Int32} {L L' : Nat → Nat → Int64}
/-- a call of the reference that changes no tray -/
def jl_RI (m r : Nat) (as : List Value) : Prop := ∀ (I : Nat → Int32) (A : Nat → Nat → Int32) (L : Nat → Nat → Int64) (rest : Nat → Option jv_C) (z : Nat × Nat), js_T I A → ∃ v I' A' L', jv_run 8 r as (jm_H m I A L rest z) = some (some (.int v), jm_H m I' A' L' rest z) ∧ js_T I' A' ∧ I' 5 = I 5 ∧ (I 5 = nI 0 → I' 2 = I 2)
def jl_RL (m r : Nat) (as : List Value) : Prop := ∀ (I : Nat → Int32) (A : Nat → Nat → Int32) (L : Nat → Nat → Int64) (rest : Nat → Option jv_C) (z : Nat × Nat), js_T I A → ∃ v I' A' L', jv_run 8 r as (jm_H m I A L rest z) = some (some (.long v), jm_H m I' A' L' rest z) ∧ js_T I' A' ∧ I' 5 = I 5 ∧ (I 5 = nI 0 → I' 2 = I 2)
theorem jl_Q_k (hS : jl_S0 b N xs x m b0 s0 ρ I A L h) (hQ : jl_Q ρ h x I) (i5 : I' 5 = I 5) (i2 : I 5 = nI 0 → I' 2 = I 2) : jl_Q ρ (jm_H m I' A' L' h.1 h.2) x I' := by
  rcases hQ with ⟨w, a1, a2, a3⟩ | ⟨ha, J, j1, j2, j3⟩
  · exact Or.inl ⟨w, jl_jo0 (jl_sm hS) hS.1.1 hS.1.2.1 a1, i5.trans a2, (i2 a2).trans a3⟩
  · exact Or.inr ⟨ha, J, j1, j2, i5.trans j3⟩
/-- the reference's call behind the class's -/
theorem jl_after_I {r : Nat} {as : List Value} (hS : jl_S0 b N xs x m b0 s0 ρ I A L h) (hQ : jl_Q ρ h x I) (hr : jl_RI m r as) : ∃ (v : Int32) (h2 : jv_H), jv_run 8 r as h = some (some (.int v), h2) ∧ jl_S b N xs x m b0 s0 h2 := by
  obtain ⟨v, I', A', L', e, hT, i5, i2⟩ := hr I A L h.1 h.2 hS.2.2.2.2.1
  rw [← jl_v hS] at e
  exact ⟨v, _, e, ρ, I', A', L', jl_r hS hT, jl_Q_k hS hQ i5 i2⟩
theorem jl_after_L {r : Nat} {as : List Value} (hS : jl_S0 b N xs x m b0 s0 ρ I A L h) (hQ : jl_Q ρ h x I) (hr : jl_RL m r as) : ∃ (v : Int64) (h2 : jv_H), jv_run 8 r as h = some (some (.long v), h2) ∧ jl_S b N xs x m b0 s0 h2 := by
  obtain ⟨v, I', A', L', e, hT, i5, i2⟩ := hr I A L h.1 h.2 hS.2.2.2.2.1
  rw [← jl_v hS] at e
  exact ⟨v, _, e, ρ, I', A', L', jl_r hS hT, jl_Q_k hS hQ i5 i2⟩
/-- a call that asks, of both sides -/
theorem jl_leafI {c r : Nat} {ats : List jk_T} {as rs : List Value} (hS : jl_S b N xs x m b0 s0 h) (Sp : jk_Sp jc_RT jc_pr jc_sg (jv_run 8) c) (hs : jc_sg c = some (ats, some jk_top)) (hV : ∀ ρ : jk_R, ρ x = some 0 → jk_Vs ρ ats as) (hr : jl_RI m r rs) : ∃ (v w : Int32) (h1 h2 : jv_H), jv_run 8 c as h = some (some (.int v), h1) ∧ jv_run 8 r rs h1 = some (some (.int w), h2) ∧ jl_M b N xs m h1 ∧ jl_S b N xs x m b0 s0 h2 := by
  obtain ⟨ρ, I, A, L, hS0, hQ⟩ := hS
  obtain ⟨rv, h1, e1, hO1, hF1, hR1⟩ := Sp _ _ hs ρ h as hS0.1.1 (hV ρ hS0.1.2.1)
  cases rv with
  | none => exact hR1.elim
  | some y =>
    obtain ⟨v, rfl, _⟩ := hR1
    have G := jg_G_fr hS0.1 hO1 hF1
    have hS1 := jl_c hS0 G.1 (G.2.2.2.2 hS0.2.1) G.2.1
    have hQ1 : jl_Q ρ h1 x I := by
      rcases hQ with ⟨w, a1, a2, a3⟩ | q
      · exact Or.inl ⟨w, jo_0k hS0.1.1 hS0.1.2.1 hF1 a1, a2, a3⟩
      · exact Or.inr q
    obtain ⟨w, h2, e2, hS2⟩ := jl_after_I hS1 hQ1 hr
    exact ⟨v, w, h1, h2, e1, e2, jl_M_of hS1, hS2⟩
theorem jl_leafL {c r : Nat} {ats : List jk_T} {as rs : List Value} (hS : jl_S b N xs x m b0 s0 h) (Sp : jk_Sp jc_RT jc_pr jc_sg (jv_run 8) c) (hs : jc_sg c = some (ats, some jk_lg)) (hV : ∀ ρ : jk_R, ρ x = some 0 → jk_Vs ρ ats as) (hr : jl_RL m r rs) : ∃ (v w : Int64) (h1 h2 : jv_H), jv_run 8 c as h = some (some (.long v), h1) ∧ jv_run 8 r rs h1 = some (some (.long w), h2) ∧ jl_M b N xs m h1 ∧ jl_S b N xs x m b0 s0 h2 := by
  obtain ⟨ρ, I, A, L, hS0, hQ⟩ := hS
  obtain ⟨rv, h1, e1, hO1, hF1, hR1⟩ := Sp _ _ hs ρ h as hS0.1.1 (hV ρ hS0.1.2.1)
  cases rv with
  | none => exact hR1.elim
  | some y =>
    obtain ⟨v, rfl⟩ := hR1
    have G := jg_G_fr hS0.1 hO1 hF1
    have hS1 := jl_c hS0 G.1 (G.2.2.2.2 hS0.2.1) G.2.1
    have hQ1 : jl_Q ρ h1 x I := by
      rcases hQ with ⟨w, a1, a2, a3⟩ | q
      · exact Or.inl ⟨w, jo_0k hS0.1.1 hS0.1.2.1 hF1 a1, a2, a3⟩
      · exact Or.inr q
    obtain ⟨w, h2, e2, hS2⟩ := jl_after_L hS1 hQ1 hr
    exact ⟨v, w, h1, h2, e1, e2, jl_M_of hS1, hS2⟩
/-! the reference's calls that ask -/
theorem jl_r49 {j : Int32} : jl_RI m 49 [.ref m, .int j] := fun I A L rest z hT => by
  obtain ⟨v, e⟩ := js_ended (d := 6) (m := m) (L := L) (rest := rest) (z := z) (j := j) hT
  exact ⟨v, I, A, L, e, hT, rfl, fun _ => rfl⟩
theorem jl_r50 {j : Int32} : jl_RI m 50 [.ref m, .int j] := fun I A L rest z hT => by
  obtain ⟨v, e⟩ := js_done (d := 6) (m := m) (L := L) (rest := rest) (z := z) (j := j) hT
  exact ⟨v, I, A, L, e, hT, rfl, fun _ => rfl⟩
theorem jl_r51 {j : Int32} : jl_RI m 51 [.ref m, .int j] := fun I A L rest z hT => by
  obtain ⟨v, e⟩ := js_printed (d := 6) (m := m) (L := L) (rest := rest) (z := z) (j := j) hT
  exact ⟨v, I, A, L, e, hT, rfl, fun _ => rfl⟩
theorem jl_r52 {j i : Int32} : jl_RI m 52 [.ref m, .int j, .int i] := fun I A L rest z hT => by
  obtain ⟨v, e⟩ := js_out (d := 6) (m := m) (L := L) (rest := rest) (z := z) (j := j) (i := i) hT
  exact ⟨v, I, A, L, e, hT, rfl, fun _ => rfl⟩
theorem jl_r53 {j i : Int32} : jl_RL m 53 [.ref m, .int j, .int i] := fun I A L rest z hT => by
  obtain ⟨v, e⟩ := js_register (d := 6) (m := m) (L := L) (rest := rest) (z := z) (j := j) (i := i) hT
  exact ⟨v, I, A, L, e, hT, rfl, fun _ => rfl⟩
theorem jl_r54 {j i : Int32} : jl_RL m 54 [.ref m, .int j, .int i] := fun I A L rest z hT => by
  obtain ⟨v, e⟩ := js_word (d := 6) (m := m) (L := L) (rest := rest) (z := z) (j := j) (a := i) hT
  exact ⟨v, I, A, L, e, hT, rfl, fun _ => rfl⟩
theorem jl_rleaf {r : Nat} {ats : List jk_T} {as : List Value} (Sp : jk_Sp jr_RT jr_pr jr_sg (jv_run 8) r) (hs : jr_sg r = some (ats, some jk_top)) (hV : jk_Vs (jr_ρ m) ats as) : jl_RI m r as := fun I A L rest z hT => by
  obtain ⟨v, I', A', L', e, K⟩ := js_leaf_i (m := m) (L := L) (rest := rest) (z := z) Sp hs hT.1 hV
  exact ⟨v, I', A', L', e, js_KT hT K, K.2.1 5 (by decide), fun _ => K.2.1 2 (by decide)⟩
theorem jl_r55 : jl_RI m 55 [.ref m] := jl_rleaf (jr_s55 7) rfl ⟨js_vm, True.intro⟩
theorem jl_r56 {i : Int32} : jl_RI m 56 [.ref m, .int i] := jl_rleaf (jr_s56 6) rfl ⟨js_vm, jk_V_top, True.intro⟩
theorem jl_r57 {j i : Int32} : jl_RI m 57 [.ref m, .int j, .int i] := jl_rleaf (jr_s57 7) rfl ⟨js_vm, jk_V_top, jk_V_top, True.intro⟩
theorem jl_r58 {i : Int32} : jl_RI m 58 [.ref m, .int i] := jl_rleaf (jr_s58 7) rfl ⟨js_vm, jk_V_top, True.intro⟩
theorem jl_r59 : jl_RL m 59 [.ref m] := fun I A L rest z hT => by
  obtain ⟨r, I', A', L', e, K, hr⟩ := jr_leaf (L := L) (rest := rest) (z := z) (as := [.ref m]) (jr_s59 5) rfl hT.1 ⟨js_vm, True.intro⟩
  cases r with
  | none => exact hr.elim
  | some y =>
    obtain ⟨v, rfl⟩ := hr
    exact ⟨v, I', A', L', e, js_KT hT K, K.2.1 5 (by decide), fun _ => K.2.1 2 (by decide)⟩
theorem jl_r5 {a0 a1 a2 a3 : Int64} {k : Int32} : jl_RI m 5 [.ref m, .long a0, .long a1, .long a2, .long a3, .int k] := fun I A L rest z hT => by
  obtain ⟨v, I', A', e, hT', i5, i2⟩ := js_bytes (d := 6) (m := m) (L := L) (rest := rest) (z := z) (a0 := a0) (a1 := a1) (a2 := a2) (a3 := a3) (k := k) hT
  exact ⟨v, I', A', L, e, hT', i5, fun _ => i2⟩
theorem jl_r17 {y : Int32} : jl_RI m 17 [.ref m, .int y] := fun I A L rest z hT => by
  by_cases c : I 5 = nI 0
  · obtain ⟨v, e⟩ := js_run0 (d := 6) (m := m) (L := L) (rest := rest) (z := z) (y := y) hT c
    exact ⟨v, I, A, L, e, hT, rfl, fun _ => rfl⟩
  · obtain ⟨v, I', A', L', e, hT', i5⟩ := js_run (d := 2) (m := m) (L := L) (rest := rest) (z := z) (y := y) hT
    exact ⟨v, I', A', L', e, hT', i5, fun u => absurd u c⟩
/-! the calls that change something -/
theorem jl_bytes {a0 a1 a2 a3 : Int64} {k : Int32} (hS : jl_S b N xs x m b0 s0 h) : ∃ (v w : Int32) (h1 h2 : jv_H), jv_run 8 125 [.ref x, .long a0, .long a1, .long a2, .long a3, .int k] h = some (some (.int v), h1) ∧ jv_run 8 5 [.ref m, .long a0, .long a1, .long a2, .long a3, .int k] h1 = some (some (.int w), h2) ∧ jl_M b N xs m h1 ∧ jl_S b N xs x m b0 s0 h2 := by
  obtain ⟨ρ, I, A, L, hS0, hQ⟩ := hS
  obtain ⟨v, h1, e1, G, h0⟩ := jo_bytes (d := 6) (a1 := a0) (a2 := a1) (a3 := a2) (a4 := a3) (nn := k) hS0.1
  have hS1 := jl_c hS0 G.1 (G.2.2.2.2 hS0.2.1) G.2.1
  have hQ1 : jl_Q ρ h1 x I := by
    rcases hQ with ⟨w, a1, a2, a3⟩ | q
    · exact Or.inl ⟨w, h0 w a1, a2, a3⟩
    · exact Or.inr q
  obtain ⟨w, h2, e2, hS2⟩ := jl_after_I hS1 hQ1 jl_r5
  exact ⟨v, w, h1, h2, e1, e2, jl_M_of hS1, hS2⟩
theorem jl_run {y : Int32} (hS : jl_S b N xs x m b0 s0 h) : ∃ (v w : Int32) (h1 h2 : jv_H), jv_run 8 127 [.ref x, .int y] h = some (some (.int v), h1) ∧ jv_run 8 17 [.ref m, .int y] h1 = some (some (.int w), h2) ∧ jl_M b N xs m h1 ∧ jl_S b N xs x m b0 s0 h2 := by
  obtain ⟨ρ, I, A, L, hS0, hQ⟩ := hS
  rcases hQ with ⟨w, a1, a2, a3⟩ | ⟨⟨a, ha⟩, qj⟩
  · obtain ⟨v, e1⟩ := jo_run0 (d := 7) (y := y) a1.2.2.1
    obtain ⟨w, h2, e2, hS2⟩ := jl_after_I hS0 (Or.inl ⟨w, a1, a2, a3⟩) (jl_r17 (y := y))
    exact ⟨v, w, h, h2, e1, e2, jl_M_of hS0, hS2⟩
  · obtain ⟨v, ρ1, h1, e1, Y⟩ := jg_run (d := 1) (y := y) hS0.1 hS0.2.1
    have hS1 := jl_c hS0 Y.1 Y.2.1 Y.2.2.1
    obtain ⟨w, h2, e2, hS2⟩ := jl_after_I hS1 (Or.inr ⟨⟨a, Y.2.2.1.1 a 4 ha⟩, qj⟩) (jl_r17 (y := y))
    exact ⟨v, w, h1, h2, e1, e2, jl_M_of hS1, hS2⟩
theorem jl_words {a0 a1 a2 a3 a4 : Int64} (hS : jl_S b N xs x m b0 s0 h) : ∃ (v w : Int32) (h1 h2 : jv_H), jv_run 8 124 [.ref x, .long a0, .long a1, .long a2, .long a3, .long a4] h = some (some (.int v), h1) ∧ jv_run 8 4 [.ref m, .long a0, .long a1, .long a2, .long a3, .long a4] h1 = some (some (.int w), h2) ∧ jl_M b N xs m h1 ∧ jl_S b N xs x m b0 s0 h2 := by
  obtain ⟨ρ, I, A, L, hS0, hQ⟩ := hS
  rcases hQ with ⟨w, q1, q2, q3⟩ | q
  · obtain ⟨v, h1, e1, G, h0⟩ := jo_words (d := 5) (a1 := a0) (a2 := a1) (a3 := a2) (a4 := a3) (a5 := a4) hS0.1 q1.1 q1.2.2.2.2
    have hS1 := jl_c hS0 G.1 (G.2.2.2.2 hS0.2.1) G.2.1
    obtain ⟨u, I', L', e2, hT, i5, i2⟩ := js_words (d := 6) (m := m) (L := L) (rest := h1.1) (z := h1.2) (a0 := a0) (a1 := a1) (a2 := a2) (a3 := a3) (a4 := a4) hS1.2.2.2.2.1 q3 q1.1
    rw [← jl_v hS1] at e2
    exact ⟨v, u, h1, _, e1, e2, jl_M_of hS1, ρ, I', A, L', jl_r hS1 hT, Or.inl ⟨_, jl_jo0 (jl_sm hS1) hS1.1.1 hS1.1.2.1 (h0 q1), i5.trans q2, i2⟩⟩
  · obtain ⟨w, hw, et⟩ := jl_tray hS0
    obtain ⟨v, h1, e1, G, h0⟩ := jo_words (d := 5) (a1 := a0) (a2 := a1) (a3 := a2) (a4 := a3) (a5 := a4) hS0.1 hw et
    have hS1 := jl_c hS0 G.1 (G.2.2.2.2 hS0.2.1) G.2.1
    obtain ⟨tw, htw, q3⟩ := jr_nat (n := 1000) (hS0.2.2.2.2.1.1.1 2 _ rfl)
    obtain ⟨u, I', L', e2, hT, i5, i2⟩ := js_words (d := 6) (m := m) (L := L) (rest := h1.1) (z := h1.2) (a0 := a0) (a1 := a1) (a2 := a2) (a3 := a3) (a4 := a4) hS1.2.2.2.2.1 q3 htw
    rw [← jl_v hS1] at e2
    obtain ⟨qa, J, j1, j2, j3⟩ := q
    exact ⟨v, u, h1, _, e1, e2, jl_M_of hS1, ρ, I', A, L', jl_r hS1 hT, Or.inr ⟨qa, J, j1, j2, i5.trans j3⟩⟩
theorem jl_frames {f : Int32} (hS : jl_S b N xs x m b0 s0 h) : ∃ (v : Int32) (h1 h2 : jv_H), jv_run 8 123 [.ref x, .int f] h = some (some (.int v), h1) ∧ jv_run 8 3 [.ref m, .int f] h1 = some (some (.int v), h2) ∧ jl_M b N xs m h1 ∧ jl_S b N xs x m b0 s0 h2 := by
  obtain ⟨ρ, I, A, L, hS0, hQ⟩ := hS
  obtain ⟨n, hn, en, hn1⟩ := jl_taken hS0
  obtain ⟨h1, e1, G, h0⟩ := jo_frames (d := 6) (f := f) hS0.1 hn en
  have hS1 := jl_c hS0 G.1 (G.2.2.2.2 hS0.2.1) G.2.1
  have hQ1 : jl_Q ρ h1 x I := by
    rcases hQ with ⟨w, a1, a2, a3⟩ | q
    · exact Or.inl ⟨w, h0 w a1, a2, a3⟩
    · exact Or.inr q
  obtain ⟨I', e2, hT, i5, i2⟩ := js_frames (d := 7) (m := m) (L := L) (rest := h1.1) (z := h1.2) (f := f) hS1.2.2.2.2.1
  rw [← jl_v hS1] at e2
  have hv : (if f < nI 3 ∨ nI 17 < f ∨ ¬ I 5 ≤ 0 then -1 else f) = (if f < nI 3 ∨ nI 17 < f ∨ ¬ n = 0 then -1 else f) := by
    have hc : ¬ I 5 ≤ 0 ↔ ¬ n = 0 := by
      rcases hQ with ⟨w, a1, a2, a3⟩ | ⟨qa, J, j1, j2, j3⟩
      · have := a1.2.1
        rw [en] at this
        have e0 : nI n = nI 0 := by simpa using this
        rw [nI_eq (by omega) (by decide)] at e0
        rw [a2, e0]
        decide
      · have := hn1 qa
        rw [j3]
        exact ⟨fun _ => by omega, fun _ => nI_nle (by omega) (by omega)⟩
    by_cases c : f < nI 3 ∨ nI 17 < f ∨ ¬ n = 0
    · rw [if_pos c, if_pos]
      rcases c with u | u | u
      · exact Or.inl u
      · exact Or.inr (Or.inl u)
      · exact Or.inr (Or.inr (hc.mpr u))
    · rw [if_neg c, if_neg]
      rintro (u | u | u)
      · exact c (Or.inl u)
      · exact c (Or.inr (Or.inl u))
      · exact c (Or.inr (Or.inr (hc.mp u)))
  rw [hv] at e2
  exact ⟨_, h1, _, e1, e2, jl_M_of hS1, ρ, I', A, L, jl_r hS1 hT, jl_Q_k hS1 hQ1 i5 (fun _ => i2)⟩
theorem jl_no {li k ex : Int32} {w n : Nat} (hn : n = 0) (hw : w ≤ 1000) (he : ex = nI 0) (h5 : I 5 = nI 0) (h2 : I 2 = nI w) (h22 : I 22 = nI 0) : jo_no n w ex li k ↔ jq_no I li k := by
  have e1 : k + nI 16 - nI 1 = k + nI 15 := by
    rw [Int32.sub_eq_add_neg, Int32.add_assoc]
    rfl
  unfold jo_no jq_no
  rw [he, h5, h2, h22, e1, hn]
  constructor
  · rintro (u | u | u | u | u | u)
    · omega
    · exact Or.inr (Or.inl u)
    · exact Or.inr (Or.inr (Or.inl u))
    · exact Or.inr (Or.inr (Or.inr (Or.inl u)))
    · exact Or.inr (Or.inr (Or.inr (Or.inr (Or.inl (Int32.not_le.mpr u)))))
    · exact Or.inr (Or.inr (Or.inr (Or.inr (Or.inr (Int32.not_le.mpr u)))))
  · rintro (u | u | u | u | u | u)
    · exact absurd u (by decide)
    · exact Or.inr (Or.inl u)
    · exact Or.inr (Or.inr (Or.inl u))
    · exact Or.inr (Or.inr (Or.inr (Or.inl u)))
    · exact Or.inr (Or.inr (Or.inr (Or.inr (Or.inl (Int32.not_le.mp u)))))
    · exact Or.inr (Or.inr (Or.inr (Or.inr (Or.inr (Int32.not_le.mp u)))))
/-- the reference's job, where jobs were taken before -/
theorem jl_r6 {li k : Int32} (hS : jl_S0 b N xs x m b0 s0 ρ I A L h) (ha : ∃ a, ρ a = some 4) (hj : ∃ J, 1 ≤ J ∧ J ≤ 12 ∧ I 5 = nI J) : ∃ (v : Int32) (h2 : jv_H), jv_run 8 6 [.ref m, .int li, .int k] h = some (some (.int v), h2) ∧ jl_S b N xs x m b0 s0 h2 := by
  by_cases c : jq_no I li k
  · have e := js_job_no (d := 7) (m := m) (A := A) (L := L) (rest := h.1) (z := h.2) c
    rw [← jl_v hS] at e
    exact ⟨_, _, e, ρ, I, A, L, hS, Or.inr ⟨ha, hj⟩⟩
  · obtain ⟨v, I', A', L', e, hT, hj'⟩ := js_job_yes (d := 6) (m := m) (L := L) (rest := h.1) (z := h.2) hS.2.2.2.2.1 c
    rw [← jl_v hS] at e
    exact ⟨_, _, e, ρ, I', A', L', jl_r hS hT, Or.inr ⟨ha, hj'⟩⟩
theorem jl_job {li k : Int32} (hS : jl_S b N xs x m b0 s0 h) : ∃ (v w : Int32) (h1 h2 : jv_H), jv_run 8 126 [.ref x, .int li, .int k] h = some (some (.int v), h1) ∧ jv_run 8 6 [.ref m, .int li, .int k] h1 = some (some (.int w), h2) ∧ jl_M b N xs m h1 ∧ jl_S b N xs x m b0 s0 h2 := by
  obtain ⟨ρ, I, A, L, hS0, hQ⟩ := hS
  obtain ⟨n, hn, en, hn1⟩ := jl_taken hS0
  rcases hQ with ⟨w, a1, a2, a3⟩ | ⟨ha, hj⟩
  · obtain ⟨nn, J, F, S, E, q, ww, hX⟩ := js_T_X hS0.2.2.2.2.1
    have hJ0 : J = 0 := by
      have h4 := hX.2.1.2.2.2.1
      have hJ := hX.2.1.2.2.2.2.1
      rw [a2] at h4
      exact ((nI_eq (by decide) (by omega)).mp h4).symm
    subst hJ0
    have h22 : I 22 = nI 0 := by
      have hX' := hX
      obtain ⟨_, ⟨_, _, _, _, _, _, _, _, _, _, _, _, _, h14, _⟩, _, _⟩ := hX'
      rw [h14, (js_no hX).2.2.2.2]
    have hiff := jl_no (I := I) (li := li) (k := k) (n := 0) (w := w) (ex := nI 0) rfl a1.1 rfl a2 a3 h22
    by_cases c : jq_no I li k
    · have e1 := jo_refuse (d := 7) (h := h) (x := x) (n := 0) (w := w) (ex := nI 0) (li := li) (k := k) (by omega) a1.1 a1.2.1 a1.2.2.2.2 a1.2.2.2.1 (hiff.mpr c)
      have e := js_job_no (d := 7) (m := m) (A := A) (L := L) (rest := h.1) (z := h.2) c
      rw [← jl_v hS0] at e
      exact ⟨_, _, h, h, e1, e, jl_M_of hS0, ρ, I, A, L, hS0, Or.inl ⟨w, a1, a2, a3⟩⟩
    · obtain ⟨v, ρ1, h1, mm, e1, g1, g2, g3, m1, m2, m3, ga⟩ := jo_accept (d := 5) (n := 0) (w := w) (ex := nI 0) (li := li) (k := k) hS0.1 hS0.2.1 (by omega) a1.1 a1.2.1 a1.2.2.2.2 a1.2.2.2.1 (fun u => c (hiff.mp u))
      have hS1 := jl_c hS0 g1 g2 g3
      obtain ⟨u, I', A', L', e2, hT, hj'⟩ := js_job_yes (d := 6) (m := m) (L := L) (rest := h1.1) (z := h1.2) hS1.2.2.2.2.1 c
      rw [← jl_v hS1] at e2
      exact ⟨_, _, h1, _, e1, e2, jl_M_of hS1, ρ1, I', A', L', jl_r hS1 hT, Or.inr ⟨ga, hj'⟩⟩
  · obtain ⟨w, hw, et⟩ := jl_tray hS0
    obtain ⟨ex, e6⟩ := jg_int (k := 6) hS0.1.1 hS0.1.2.1 rfl rfl
    by_cases c : jo_no n w ex li k
    · have e1 := jo_refuse (d := 7) (h := h) (x := x) hn hw en et e6 c
      obtain ⟨u, h2, e2, hS2⟩ := jl_r6 (li := li) (k := k) hS0 ha hj
      exact ⟨_, _, h, h2, e1, e2, jl_M_of hS0, hS2⟩
    · obtain ⟨v, ρ1, h1, mm, e1, g1, g2, g3, m1, m2, m3, ga⟩ := jo_accept (d := 5) hS0.1 hS0.2.1 hn hw en et e6 c
      have hS1 := jl_c hS0 g1 g2 g3
      obtain ⟨u, h2, e2, hS2⟩ := jl_r6 (li := li) (k := k) hS1 ga hj
      exact ⟨_, _, h1, h2, e1, e2, jl_M_of hS1, hS2⟩
end JW
