/-! the reference's blocks, frames, sectors and transfers: what stays true, said of plain functions
F: what a frame holds; S: what a sector holds; E: which blocks exist; q: transfers asked for (true: a write; its frame); w: the one under way (its frame, its sector) -/
section JZ
def jz_cnt (E : Nat → Bool) : Nat → Nat
  | 0 => 0
  | n + 1 => jz_cnt E n + if E n = true then 1 else 0
def jz_P (n J : Nat) (F S : Nat → Option Nat) (E : Nat → Bool) (q : List (Bool × Nat)) (w : Option (Bool × Nat × Nat)) : Prop :=
  (∀ f k, F f = some k → f < n ∧ k < 64 * J) ∧
  (∀ s k, S s = some k → s < 64 ∧ k < 64 * J) ∧
  (∀ f g k, F f = some k → F g = some k → f = g) ∧
  (∀ s t k, S s = some k → S t = some k → s = t) ∧
  (∀ k, E k = true ↔ (∃ f, F f = some k) ∨ ∃ s, S s = some k) ∧
  (q.map fun a => a.2).Nodup ∧
  (∀ b f, (b, f) ∈ q → ∃ k, F f = some k ∧ (b = true → ∀ s, ¬ S s = some k) ∧ (b = false → ∃ s, S s = some k)) ∧
  (∀ b f s, w = some (b, f, s) → ¬ f ∈ (q.map fun a => a.2) ∧ s < 64 ∧ ∃ k, F f = some k ∧ (b = true → S s = some k) ∧ (b = false → ∀ t, ¬ S t = some k)) ∧
  (∀ f s k, F f = some k → S s = some k → (false, f) ∈ q ∨ ∃ s', w = some (true, f, s')) ∧
  jz_cnt E 768 ≤ 64
variable {n J : Nat} {F S : Nat → Option Nat} {E : Nat → Bool} {q : List (Bool × Nat)} {w : Option (Bool × Nat × Nat)}
/-- a frame is locked -/
def jz_lk (q : List (Bool × Nat)) (w : Option (Bool × Nat × Nat)) (f : Nat) : Prop := f ∈ (q.map fun a => a.2) ∨ ∃ b s, w = some (b, f, s)
theorem jz_mem {b : Bool} {f : Nat} (h : (b, f) ∈ q) : f ∈ (q.map fun a => a.2) := List.mem_map.mpr ⟨(b, f), h, rfl⟩
theorem jz_us {α : Type} {f : Nat → α} {k : Nat} {v : α} : va_up f k v k = v := if_pos rfl
theorem jz_un {α : Type} {f : Nat → α} {k j : Nat} {v : α} (h : ¬ j = k) : va_up f k v j = f j := if_neg h
theorem jz_cnt_up {k : Nat} {b : Bool} : ∀ N, jz_cnt (va_up E k b) N = jz_cnt E N + (if k < N then (if b = true then 1 else 0) else 0) - (if k < N then (if E k = true then 1 else 0) else 0) ∧ (if k < N then (if E k = true then 1 else 0) else 0) ≤ jz_cnt E N
  | 0 => by simp [jz_cnt]
  | N + 1 => by
    obtain ⟨h1, h2⟩ := jz_cnt_up (k := k) (b := b) N
    unfold jz_cnt
    rw [h1]
    by_cases e : N = k
    · subst e
      rw [jz_us]
      have a1 : ¬ N < N := by omega
      have a2 : N < N + 1 := by omega
      simp only [a1, a2, if_true, if_false]
      constructor
      · split <;> split <;> omega
      · split <;> omega
    · rw [jz_un e]
      by_cases hk : k < N
      · have a2 : k < N + 1 := by omega
        simp only [hk, a2, if_true] at h2 ⊢
        constructor
        · split <;> split <;> split <;> simp_all <;> omega
        · exact Nat.le_trans h2 (Nat.le_add_right _ _)
      · have a2 : ¬ k < N + 1 := by omega
        simp only [hk, a2, if_false]
        constructor
        · split <;> omega
        · omega
theorem jz_cnt_add {k N : Nat} (hk : k < N) (he : ¬ E k = true) : jz_cnt (va_up E k true) N = jz_cnt E N + 1 := by
  have h := (jz_cnt_up (E := E) (k := k) (b := true) N).1
  simp only [hk, he, if_true, if_false] at h
  simpa using h
theorem jz_cnt_del {k N : Nat} (hk : k < N) (he : E k = true) : jz_cnt (va_up E k false) N + 1 = jz_cnt E N := by
  have h := jz_cnt_up (E := E) (k := k) (b := false) N
  simp only [hk, he, if_true] at h
  have h1 := h.1
  have h2 := h.2
  simp at h1
  omega
theorem jz_cnt_mono {E' : Nat → Bool} (h : ∀ k, E k = true → E' k = true) : ∀ N, jz_cnt E N ≤ jz_cnt E' N
  | 0 => Nat.le_refl 0
  | N + 1 => by
    have ih := jz_cnt_mono h N
    unfold jz_cnt
    by_cases e : E N = true
    · rw [if_pos e, if_pos (h N e)]
      omega
    · rw [if_neg e]
      split <;> omega
/-- how many sectors are taken -/
def jz_occ (S : Nat → Option Nat) : Nat → Nat
  | 0 => 0
  | N + 1 => jz_occ S N + if S N = none then 0 else 1
theorem jz_occ_le (hi : ∀ s t k, S s = some k → S t = some k → s = t) (hb : ∀ s k, S s = some k → k < 768) : ∀ N, ∃ G : Nat → Bool, (∀ k, G k = true → ∃ s, s < N ∧ S s = some k) ∧ jz_occ S N ≤ jz_cnt G 768
  | 0 => ⟨fun _ => false, fun k h => (by cases h), Nat.zero_le _⟩
  | N + 1 => by
    obtain ⟨G, h1, h2⟩ := jz_occ_le hi hb N
    cases hs : S N with
    | none =>
      refine ⟨G, fun k hk => ?_, ?_⟩
      · obtain ⟨s, a, b⟩ := h1 k hk
        exact ⟨s, by omega, b⟩
      · unfold jz_occ
        rw [hs]
        simpa using h2
    | some k =>
      have hg : ¬ G k = true := fun hk => by
        obtain ⟨s, a, b⟩ := h1 k hk
        have := hi s N k b hs
        omega
      refine ⟨va_up G k true, fun k' hk => ?_, ?_⟩
      · by_cases e : k' = k
        · subst e
          exact ⟨N, by omega, hs⟩
        · rw [jz_un e] at hk
          obtain ⟨s, a, b⟩ := h1 k' hk
          exact ⟨s, by omega, b⟩
      · rw [jz_cnt_add (hb N k hs) hg]
        unfold jz_occ
        rw [hs]
        simp
        omega
theorem jz_occ_full : ∀ N, (∀ s, s < N → ¬ S s = none) → jz_occ S N = N
  | 0, _ => rfl
  | N + 1, h => by
    have ih := jz_occ_full N (fun s hs => h s (by omega))
    unfold jz_occ
    rw [ih, if_neg (h N (by omega))]
/-- where fewer than 64 blocks lie on sectors, one is free -/
theorem jz_free (hi : ∀ s t k, S s = some k → S t = some k → s = t) (hb : ∀ s k, S s = some k → k < 768) {E' : Nat → Bool} (hE : ∀ s k, S s = some k → E' k = true) (hc : jz_cnt E' 768 < 64) : ∃ s, s < 64 ∧ S s = none := by
  apply Classical.byContradiction
  intro hn
  have hf := jz_occ_full (S := S) 64 (fun s hs e => hn ⟨s, hs, e⟩)
  obtain ⟨G, h1, h2⟩ := jz_occ_le hi hb 64
  have h3 := jz_cnt_mono (E := G) (E' := E') (fun k hk => by
    obtain ⟨s, _, e⟩ := h1 k hk
    exact hE s k e) 768
  omega
theorem jz_P_free (hJ : J ≤ 12) (h : jz_P n J F S E q w) {f k : Nat} (hf : F f = some k) (hs : ∀ s, ¬ S s = some k) : ∃ s, s < 64 ∧ S s = none := by
  obtain ⟨h1, h2, h3, h4, h5, h6, h7, h8, h9, h10⟩ := h
  have hk := (h1 f k hf).2
  have hE : E k = true := (h5 k).mpr (Or.inl ⟨f, hf⟩)
  refine jz_free h4 (fun s k hk => by have := (h2 s k hk).2; omega) (E' := va_up E k false) (fun s k' e => ?_) ?_
  · rw [jz_un (fun q => hs s (by rw [← q]; exact e))]
    exact (h5 k').mpr (Or.inr ⟨s, e⟩)
  · have := jz_cnt_del (E := E) (k := k) (N := 768) (by omega) hE
    omega
/-- a write's end: its frame is free -/
theorem jz_fin_w {f s : Nat} (h : jz_P n J F S E q (some (true, f, s))) : jz_P n J (va_up F f none) S E q none := by
  obtain ⟨h1, h2, h3, h4, h5, h6, h7, h8, h9, h10⟩ := h
  obtain ⟨a1, a2, k, a3, a4, _⟩ := h8 true f s rfl
  have a4 := a4 rfl
  have up : ∀ {g k'}, va_up F f none g = some k' → ¬ g = f ∧ F g = some k' := fun {g k'} e => by
    by_cases x : g = f
    · rw [x, jz_us] at e; cases e
    · rw [jz_un x] at e; exact ⟨x, e⟩
  refine ⟨fun g k' e => h1 g k' (up e).2, h2, fun g g' k' e e' => h3 g g' k' (up e).2 (up e').2, h4, fun k' => ?_, h6, fun b g hm => ?_, fun b g t e => (by cases e), fun g t k' e e' => ?_, h10⟩
  · rw [h5 k']
    constructor
    · rintro (⟨g, e⟩ | e)
      · by_cases x : g = f
        · rw [x, a3] at e
          cases e
          exact Or.inr ⟨s, a4⟩
        · exact Or.inl ⟨g, by rw [jz_un x]; exact e⟩
      · exact Or.inr e
    · rintro (⟨g, e⟩ | e)
      · exact Or.inl ⟨g, (up e).2⟩
      · exact Or.inr e
  · have x : ¬ g = f := fun x => a1 (by rw [← x]; exact jz_mem hm)
    obtain ⟨k', e, r⟩ := h7 b g hm
    exact ⟨k', by rw [jz_un x]; exact e, r⟩
  · rcases h9 g t k' (up e).2 e' with m | ⟨s', m⟩
    · exact Or.inl m
    · cases m
      exact absurd rfl (up e).1
/-- a block that lies on a sector alone vanishes -/
theorem jz_van_s {s k : Nat} (hk : k < 768) (h : jz_P n J F S E q w) (hs : S s = some k) (hf : ∀ f, ¬ F f = some k) : jz_P n J F (va_up S s none) (va_up E k false) q w := by
  obtain ⟨h1, h2, h3, h4, h5, h6, h7, h8, h9, h10⟩ := h
  have up : ∀ {t k'}, va_up S s none t = some k' → ¬ t = s ∧ S t = some k' := fun {t k'} e => by
    by_cases x : t = s
    · rw [x, jz_us] at e; cases e
    · rw [jz_un x] at e; exact ⟨x, e⟩
  have hE : E k = true := (h5 k).mpr (Or.inr ⟨s, hs⟩)
  have ne : ∀ {g k'}, F g = some k' → ¬ k' = k := fun {g k'} e x => hf g (by rw [← x]; exact e)
  refine ⟨h1, fun t k' e => h2 t k' (up e).2, h3, fun t t' k' e e' => h4 t t' k' (up e).2 (up e').2, fun k' => ?_, h6, fun b g hm => ?_, fun b g t e => ?_, fun g t k' e e' => h9 g t k' e (up e').2, ?_⟩
  · by_cases x : k' = k
    · subst x
      rw [jz_us]
      refine ⟨fun e => (by cases e), ?_⟩
      rintro (⟨g, e⟩ | ⟨t, e⟩)
      · exact absurd e (hf g)
      · exact absurd (h4 t s k' (up e).2 hs) (up e).1
    · rw [jz_un x, h5 k']
      constructor
      · rintro (e | ⟨t, e⟩)
        · exact Or.inl e
        · refine Or.inr ⟨t, ?_⟩
          rw [jz_un (fun y => by rw [y, hs] at e; cases e; exact x rfl)]
          exact e
      · rintro (e | ⟨t, e⟩)
        · exact Or.inl e
        · exact Or.inr ⟨t, (up e).2⟩
  · obtain ⟨k', e, r1, r2⟩ := h7 b g hm
    refine ⟨k', e, fun hb t e' => r1 hb t (up e').2, fun hb => ?_⟩
    obtain ⟨t, e'⟩ := r2 hb
    exact ⟨t, by rw [jz_un (fun y => by rw [y, hs] at e'; cases e'; exact ne e rfl)]; exact e'⟩
  · obtain ⟨b1, b2, k', e', r1, r2⟩ := h8 b g t e
    refine ⟨b1, b2, k', e', fun hb => ?_, fun hb t' e2 => r2 hb t' (up e2).2⟩
    have := r1 hb
    rw [jz_un (fun y => by rw [y, hs] at this; cases this; exact ne e' rfl)]
    exact this
  · have := jz_cnt_del (E := E) (k := k) (N := 768) hk hE
    omega
/-- a read's end -/
theorem jz_fin_r {f s : Nat} (h : jz_P n J F S E q (some (false, f, s))) : jz_P n J F S E q none := by
  obtain ⟨h1, h2, h3, h4, h5, h6, h7, h8, h9, h10⟩ := h
  refine ⟨h1, h2, h3, h4, h5, h6, h7, fun b g t e => (by cases e), fun g t k e e' => ?_, h10⟩
  rcases h9 g t k e e' with m | ⟨s', m⟩
  · exact Or.inl m
  · cases m
/-- a victim's write is asked for -/
theorem jz_ask_w {f k : Nat} (h : jz_P n J F S E q w) (hf : F f = some k) (hl : ¬ jz_lk q w f) : jz_P n J F S E (q ++ [(true, f)]) w := by
  obtain ⟨h1, h2, h3, h4, h5, h6, h7, h8, h9, h10⟩ := h
  have hnq : ¬ f ∈ (q.map fun a => a.2) := fun m => hl (Or.inl m)
  have hns : ∀ s, ¬ S s = some k := fun s e => by
    rcases h9 f s k hf e with m | ⟨s', m⟩
    · exact hnq (jz_mem m)
    · exact hl (Or.inr ⟨true, s', m⟩)
  refine ⟨h1, h2, h3, h4, h5, ?_, fun b g hm => ?_, fun b g t e => ?_, fun g t k' e e' => ?_, h10⟩
  · rw [List.map_append, List.nodup_append]
    refine ⟨h6, by simp, fun a ha b hb => ?_⟩
    simp at hb
    subst hb
    exact fun x => hnq (by rw [← x]; exact ha)
  · rcases List.mem_append.mp hm with m | m
    · exact h7 b g m
    · simp at m
      obtain ⟨rfl, rfl⟩ := m
      exact ⟨k, hf, fun _ => hns, fun x => by cases x⟩
  · obtain ⟨b1, b2, r⟩ := h8 b g t e
    refine ⟨fun m => ?_, b2, r⟩
    rw [List.map_append, List.mem_append] at m
    rcases m with m | m
    · exact b1 m
    · simp at m
      subst m
      exact hl (Or.inr ⟨b, t, e⟩)
  · rcases h9 g t k' e e' with m | m
    · exact Or.inl (List.mem_append_left _ m)
    · exact Or.inr m
/-- a read is asked for: a free frame is locked for a block that lies on a sector alone -/
theorem jz_ask_r {f s k : Nat} (h : jz_P n J F S E q w) (hf : F f = none) (hfn : f < n) (hs : S s = some k) (hk : ∀ g, ¬ F g = some k) : jz_P n J (va_up F f (some k)) S E (q ++ [(false, f)]) w := by
  obtain ⟨h1, h2, h3, h4, h5, h6, h7, h8, h9, h10⟩ := h
  have hnq : ¬ f ∈ (q.map fun a => a.2) := fun m => by
    obtain ⟨⟨b, g⟩, m', e⟩ := List.mem_map.mp m
    simp only at e
    subst e
    obtain ⟨k', e, _⟩ := h7 b g m'
    rw [hf] at e; cases e
  have hnw : ∀ b t, ¬ w = some (b, f, t) := fun b t e => by
    obtain ⟨_, _, k', e', _⟩ := h8 b f t e
    rw [hf] at e'; cases e'
  have up : ∀ {g k'}, va_up F f (some k) g = some k' → (g = f ∧ k' = k) ∨ (¬ g = f ∧ F g = some k') := fun {g k'} e => by
    by_cases x : g = f
    · rw [x, jz_us] at e; cases e; exact Or.inl ⟨x, rfl⟩
    · rw [jz_un x] at e; exact Or.inr ⟨x, e⟩
  have old : ∀ {g k'}, F g = some k' → va_up F f (some k) g = some k' := fun {g k'} e => by
    rw [jz_un (fun x => by rw [x, hf] at e; cases e)]; exact e
  refine ⟨fun g k' e => ?_, h2, fun g g' k' e e' => ?_, h4, fun k' => ?_, ?_, fun b g hm => ?_, fun b g t e => ?_, fun g t k' e e' => ?_, h10⟩
  · rcases up e with ⟨rfl, rfl⟩ | ⟨_, e⟩
    · exact ⟨hfn, (h2 s k' hs).2⟩
    · exact h1 g k' e
  · rcases up e with ⟨rfl, rfl⟩ | ⟨x, e1⟩ <;> rcases up e' with ⟨y, z⟩ | ⟨y, e2⟩
    · exact y.symm
    · exact absurd e2 (hk g')
    · subst z; exact absurd e1 (hk g)
    · exact h3 g g' k' e1 e2
  · rw [h5 k']
    constructor
    · rintro (⟨g, e⟩ | e)
      · exact Or.inl ⟨g, old e⟩
      · exact Or.inr e
    · rintro (⟨g, e⟩ | e)
      · rcases up e with ⟨rfl, rfl⟩ | ⟨_, e⟩
        · exact Or.inr ⟨s, hs⟩
        · exact Or.inl ⟨g, e⟩
      · exact Or.inr e
  · rw [List.map_append, List.nodup_append]
    refine ⟨h6, by simp, fun a ha b hb => ?_⟩
    simp at hb
    subst hb
    exact fun x => hnq (by rw [← x]; exact ha)
  · rcases List.mem_append.mp hm with m | m
    · obtain ⟨k', e, r⟩ := h7 b g m
      exact ⟨k', old e, r⟩
    · simp at m
      obtain ⟨rfl, rfl⟩ := m
      exact ⟨k, jz_us, fun x => (by cases x), fun _ => ⟨s, hs⟩⟩
  · obtain ⟨b1, b2, k', e', r⟩ := h8 b g t e
    refine ⟨fun m => ?_, b2, k', old e', r⟩
    rw [List.map_append, List.mem_append] at m
    rcases m with m | m
    · exact b1 m
    · simp at m
      subst m
      exact hnw b t e
  · rcases up e with ⟨rfl, rfl⟩ | ⟨x, e⟩
    · exact Or.inl (List.mem_append_right _ (by simp))
    · rcases h9 g t k' e e' with m | m
      · exact Or.inl (List.mem_append_left _ m)
      · exact Or.inr m
/-- a new block in a free frame -/
theorem jz_new {f k : Nat} (h : jz_P n J F S E q w) (hf : F f = none) (hfn : f < n) (hkJ : k < 64 * J) (hk : k < 768) (he : ¬ E k = true) (hc : jz_cnt E 768 < 64) : jz_P n J (va_up F f (some k)) S (va_up E k true) q w := by
  obtain ⟨h1, h2, h3, h4, h5, h6, h7, h8, h9, h10⟩ := h
  have nf : ∀ g, ¬ F g = some k := fun g e => he ((h5 k).mpr (Or.inl ⟨g, e⟩))
  have nS : ∀ s, ¬ S s = some k := fun s e => he ((h5 k).mpr (Or.inr ⟨s, e⟩))
  have up : ∀ {g k'}, va_up F f (some k) g = some k' → (g = f ∧ k' = k) ∨ (¬ g = f ∧ F g = some k') := fun {g k'} e => by
    by_cases x : g = f
    · rw [x, jz_us] at e; cases e; exact Or.inl ⟨x, rfl⟩
    · rw [jz_un x] at e; exact Or.inr ⟨x, e⟩
  have old : ∀ {g k'}, F g = some k' → va_up F f (some k) g = some k' := fun {g k'} e => by
    rw [jz_un (fun x => by rw [x, hf] at e; cases e)]; exact e
  refine ⟨fun g k' e => ?_, h2, fun g g' k' e e' => ?_, h4, fun k' => ?_, h6, fun b g hm => ?_, fun b g t e => ?_, fun g t k' e e' => ?_, ?_⟩
  · rcases up e with ⟨rfl, rfl⟩ | ⟨_, e⟩
    · exact ⟨hfn, hkJ⟩
    · exact h1 g k' e
  · rcases up e with ⟨rfl, rfl⟩ | ⟨x, e1⟩ <;> rcases up e' with ⟨y, z⟩ | ⟨y, e2⟩
    · exact y.symm
    · exact absurd e2 (nf g')
    · subst z; exact absurd e1 (nf g)
    · exact h3 g g' k' e1 e2
  · by_cases x : k' = k
    · subst x
      rw [jz_us]
      exact ⟨fun _ => Or.inl ⟨f, jz_us⟩, fun _ => rfl⟩
    · rw [jz_un x, h5 k']
      constructor
      · rintro (⟨g, e⟩ | e)
        · exact Or.inl ⟨g, old e⟩
        · exact Or.inr e
      · rintro (⟨g, e⟩ | e)
        · rcases up e with ⟨_, z⟩ | ⟨_, e⟩
          · exact absurd z x
          · exact Or.inl ⟨g, e⟩
        · exact Or.inr e
  · obtain ⟨k', e, r⟩ := h7 b g hm
    exact ⟨k', old e, r⟩
  · obtain ⟨b1, b2, k', e', r⟩ := h8 b g t e
    exact ⟨b1, b2, k', old e', r⟩
  · rcases up e with ⟨rfl, rfl⟩ | ⟨_, e⟩
    · exact absurd e' (nS t)
    · exact h9 g t k' e e'
  · rw [jz_cnt_add hk he]
    omega
end JZ
