/-! the same: a transfer's beginning, a job's end, a job's program -/
section JZ
variable {n J : Nat} {F S : Nat → Option Nat} {E : Nat → Bool} {q : List (Bool × Nat)} {w : Option (Bool × Nat × Nat)}
/-- a read begins: its sector is free -/
theorem jz_beg_r {f s k : Nat} (h : jz_P n J F S E ((false, f) :: q) none) (hf : F f = some k) (hs : S s = some k) : jz_P n J F (va_up S s none) E q (some (false, f, s)) := by
  obtain ⟨h1, h2, h3, h4, h5, h6, h7, h8, h9, h10⟩ := h
  rw [List.map_cons, List.nodup_cons] at h6
  have up : ∀ {t k'}, va_up S s none t = some k' → ¬ t = s ∧ S t = some k' := fun {t k'} e => by
    by_cases x : t = s
    · rw [x, jz_us] at e; cases e
    · rw [jz_un x] at e; exact ⟨x, e⟩
  refine ⟨h1, fun t k' e => h2 t k' (up e).2, h3, fun t t' k' e e' => h4 t t' k' (up e).2 (up e').2, fun k' => ?_, h6.2, fun b g hm => ?_, fun b g t e => ?_, fun g t k' e e' => ?_, h10⟩
  · rw [h5 k']
    constructor
    · rintro (e | ⟨t, e⟩)
      · exact Or.inl e
      · by_cases x : t = s
        · rw [x, hs] at e; cases e; exact Or.inl ⟨f, hf⟩
        · exact Or.inr ⟨t, by rw [jz_un x]; exact e⟩
    · rintro (e | ⟨t, e⟩)
      · exact Or.inl e
      · exact Or.inr ⟨t, (up e).2⟩
  · obtain ⟨k', e, r1, r2⟩ := h7 b g (List.mem_cons_of_mem _ hm)
    refine ⟨k', e, fun hb t e' => r1 hb t (up e').2, fun hb => ?_⟩
    obtain ⟨t, e'⟩ := r2 hb
    have x : ¬ t = s := fun x => by
      rw [x, hs] at e'
      cases e'
      have := h3 g f k e hf
      exact h6.1 (by rw [← this]; exact jz_mem hm)
    exact ⟨t, by rw [jz_un x]; exact e'⟩
  · cases e
    refine ⟨h6.1, (h2 s k hs).1, k, hf, fun x => (by cases x), fun _ t e' => ?_⟩
    exact (up e').1 (h4 t s k (up e').2 hs)
  · rcases h9 g t k' e (up e').2 with m | ⟨s', m⟩
    · rcases List.mem_cons.mp m with x | m
      · cases x
        rw [hf] at e
        cases e
        exact absurd (h4 t s k (up e').2 hs) (up e').1
      · exact Or.inl m
    · cases m
/-- a write begins: a free sector is taken -/
theorem jz_beg_w {f s k : Nat} (h : jz_P n J F S E ((true, f) :: q) none) (hf : F f = some k) (hs : S s = none) (hs64 : s < 64) : jz_P n J F (va_up S s (some k)) E q (some (true, f, s)) := by
  obtain ⟨h1, h2, h3, h4, h5, h6, h7, h8, h9, h10⟩ := h
  rw [List.map_cons, List.nodup_cons] at h6
  have hn : ∀ t, ¬ S t = some k := by
    obtain ⟨k', e, r1, _⟩ := h7 true f List.mem_cons_self
    rw [hf] at e
    cases e
    exact r1 rfl
  have up : ∀ {t k'}, va_up S s (some k) t = some k' → (t = s ∧ k' = k) ∨ (¬ t = s ∧ S t = some k') := fun {t k'} e => by
    by_cases x : t = s
    · rw [x, jz_us] at e; cases e; exact Or.inl ⟨x, rfl⟩
    · rw [jz_un x] at e; exact Or.inr ⟨x, e⟩
  have old : ∀ {t k'}, S t = some k' → va_up S s (some k) t = some k' := fun {t k'} e => by
    rw [jz_un (fun x => by rw [x, hs] at e; cases e)]; exact e
  refine ⟨h1, fun t k' e => ?_, h3, fun t t' k' e e' => ?_, fun k' => ?_, h6.2, fun b g hm => ?_, fun b g t e => ?_, fun g t k' e e' => ?_, h10⟩
  · rcases up e with ⟨rfl, rfl⟩ | ⟨_, e⟩
    · exact ⟨hs64, (h1 f k' hf).2⟩
    · exact h2 t k' e
  · rcases up e with ⟨rfl, rfl⟩ | ⟨x, e1⟩ <;> rcases up e' with ⟨y, z⟩ | ⟨y, e2⟩
    · exact y.symm
    · exact absurd e2 (hn t')
    · subst z; exact absurd e1 (hn t)
    · exact h4 t t' k' e1 e2
  · rw [h5 k']
    constructor
    · rintro (e | ⟨t, e⟩)
      · exact Or.inl e
      · exact Or.inr ⟨t, old e⟩
    · rintro (e | ⟨t, e⟩)
      · exact Or.inl e
      · rcases up e with ⟨_, z⟩ | ⟨_, e⟩
        · subst z; exact Or.inl ⟨f, hf⟩
        · exact Or.inr ⟨t, e⟩
  · obtain ⟨k', e, r1, r2⟩ := h7 b g (List.mem_cons_of_mem _ hm)
    refine ⟨k', e, fun hb t e' => ?_, fun hb => ?_⟩
    · rcases up e' with ⟨_, z⟩ | ⟨_, e'⟩
      · subst z
        have := h3 g f k' e hf
        exact h6.1 (by rw [← this]; exact jz_mem hm)
      · exact r1 hb t e'
    · obtain ⟨t, e'⟩ := r2 hb
      exact ⟨t, old e'⟩
  · cases e
    exact ⟨h6.1, hs64, k, hf, fun _ => jz_us, fun x => (by cases x)⟩
  · rcases up e' with ⟨rfl, rfl⟩ | ⟨_, e'⟩
    · have := h3 g f k' e hf
      subst this
      exact Or.inr ⟨t, rfl⟩
    · rcases h9 g t k' e e' with m | ⟨s', m⟩
      · rcases List.mem_cons.mp m with x | m
        · cases x
        · exact Or.inl m
      · cases m
/-- an asked write is dropped -/
theorem jz_drop {p r : List (Bool × Nat)} {f : Nat} (h : jz_P n J F S E (p ++ (true, f) :: r) w) : jz_P n J F S E (p ++ r) w := by
  obtain ⟨h1, h2, h3, h4, h5, h6, h7, h8, h9, h10⟩ := h
  have sub : ∀ x, x ∈ p ++ r → x ∈ p ++ (true, f) :: r := fun x m => by
    rcases List.mem_append.mp m with m | m
    · exact List.mem_append_left _ m
    · exact List.mem_append_right _ (List.mem_cons_of_mem _ m)
  refine ⟨h1, h2, h3, h4, h5, ?_, fun b g m => h7 b g (sub _ m), fun b g t e => ?_, fun g t k e e' => ?_, h10⟩
  · rw [List.map_append, List.map_cons] at h6
    rw [List.map_append]
    exact List.Nodup.sublist (List.Sublist.append_left (List.sublist_cons_self _ _) _) h6
  · obtain ⟨b1, b2⟩ := h8 b g t e
    refine ⟨fun m => b1 ?_, b2⟩
    obtain ⟨x, m, e⟩ := List.mem_map.mp m
    exact List.mem_map.mpr ⟨x, sub x m, e⟩
  · rcases h9 g t k e e' with m | m
    · rcases List.mem_append.mp m with m | m
      · exact Or.inl (List.mem_append_left _ m)
      · rcases List.mem_cons.mp m with x | m
        · cases x
        · exact Or.inl (List.mem_append_right _ m)
    · exact Or.inr m
/-- a block in an unlocked frame vanishes -/
theorem jz_van_f {f k : Nat} (hk : k < 768) (h : jz_P n J F S E q w) (hf : F f = some k) (hl : ¬ jz_lk q w f) : jz_P n J (va_up F f none) S (va_up E k false) q w := by
  obtain ⟨h1, h2, h3, h4, h5, h6, h7, h8, h9, h10⟩ := h
  have hns : ∀ s, ¬ S s = some k := fun s e => by
    rcases h9 f s k hf e with m | ⟨s', m⟩
    · exact hl (Or.inl (jz_mem m))
    · exact hl (Or.inr ⟨true, s', m⟩)
  have hE : E k = true := (h5 k).mpr (Or.inl ⟨f, hf⟩)
  have up : ∀ {g k'}, va_up F f none g = some k' → ¬ g = f ∧ F g = some k' := fun {g k'} e => by
    by_cases x : g = f
    · rw [x, jz_us] at e; cases e
    · rw [jz_un x] at e; exact ⟨x, e⟩
  refine ⟨fun g k' e => h1 g k' (up e).2, h2, fun g g' k' e e' => h3 g g' k' (up e).2 (up e').2, h4, fun k' => ?_, h6, fun b g hm => ?_, fun b g t e => ?_, fun g t k' e e' => h9 g t k' (up e).2 e', ?_⟩
  · by_cases x : k' = k
    · subst x
      rw [jz_us]
      refine ⟨fun e => (by cases e), ?_⟩
      rintro (⟨g, e⟩ | ⟨t, e⟩)
      · exact absurd (h3 g f k' (up e).2 hf) (up e).1
      · exact absurd e (hns t)
    · rw [jz_un x, h5 k']
      constructor
      · rintro (⟨g, e⟩ | e)
        · refine Or.inl ⟨g, ?_⟩
          rw [jz_un (fun y => by rw [y, hf] at e; cases e; exact x rfl)]
          exact e
        · exact Or.inr e
      · rintro (⟨g, e⟩ | e)
        · exact Or.inl ⟨g, (up e).2⟩
        · exact Or.inr e
  · have x : ¬ g = f := fun x => hl (Or.inl (by rw [← x]; exact jz_mem hm))
    obtain ⟨k', e, r⟩ := h7 b g hm
    exact ⟨k', by rw [jz_un x]; exact e, r⟩
  · have x : ¬ g = f := fun x => hl (Or.inr ⟨b, t, by rw [← x]; exact e⟩)
    obtain ⟨b1, b2, k', e', r⟩ := h8 b g t e
    exact ⟨b1, b2, k', by rw [jz_un x]; exact e', r⟩
  · have := jz_cnt_del (E := E) (k := k) (N := 768) hk hE
    omega
/-- a program's block on a free sector -/
theorem jz_load {s k : Nat} (h : jz_P n J F S E q w) (hs : S s = none) (hs64 : s < 64) (hkJ : k < 64 * J) (hk : k < 768) (he : ¬ E k = true) (hc : jz_cnt E 768 < 64) : jz_P n J F (va_up S s (some k)) (va_up E k true) q w := by
  obtain ⟨h1, h2, h3, h4, h5, h6, h7, h8, h9, h10⟩ := h
  have nf : ∀ g, ¬ F g = some k := fun g e => he ((h5 k).mpr (Or.inl ⟨g, e⟩))
  have nS : ∀ s, ¬ S s = some k := fun s e => he ((h5 k).mpr (Or.inr ⟨s, e⟩))
  have up : ∀ {t k'}, va_up S s (some k) t = some k' → (t = s ∧ k' = k) ∨ (¬ t = s ∧ S t = some k') := fun {t k'} e => by
    by_cases x : t = s
    · rw [x, jz_us] at e; cases e; exact Or.inl ⟨x, rfl⟩
    · rw [jz_un x] at e; exact Or.inr ⟨x, e⟩
  have old : ∀ {t k'}, S t = some k' → va_up S s (some k) t = some k' := fun {t k'} e => by
    rw [jz_un (fun x => by rw [x, hs] at e; cases e)]; exact e
  refine ⟨h1, fun t k' e => ?_, h3, fun t t' k' e e' => ?_, fun k' => ?_, h6, fun b g hm => ?_, fun b g t e => ?_, fun g t k' e e' => ?_, ?_⟩
  · rcases up e with ⟨rfl, rfl⟩ | ⟨_, e⟩
    · exact ⟨hs64, hkJ⟩
    · exact h2 t k' e
  · rcases up e with ⟨rfl, rfl⟩ | ⟨x, e1⟩ <;> rcases up e' with ⟨y, z⟩ | ⟨y, e2⟩
    · exact y.symm
    · exact absurd e2 (nS t')
    · subst z; exact absurd e1 (nS t)
    · exact h4 t t' k' e1 e2
  · by_cases x : k' = k
    · subst x
      rw [jz_us]
      exact ⟨fun _ => Or.inr ⟨s, jz_us⟩, fun _ => rfl⟩
    · rw [jz_un x, h5 k']
      constructor
      · rintro (e | ⟨t, e⟩)
        · exact Or.inl e
        · exact Or.inr ⟨t, old e⟩
      · rintro (e | ⟨t, e⟩)
        · exact Or.inl e
        · rcases up e with ⟨_, z⟩ | ⟨_, e⟩
          · exact absurd z x
          · exact Or.inr ⟨t, e⟩
  · obtain ⟨k', e, r1, r2⟩ := h7 b g hm
    refine ⟨k', e, fun hb t e' => ?_, fun hb => ?_⟩
    · rcases up e' with ⟨_, z⟩ | ⟨_, e'⟩
      · subst z; exact nf g e
      · exact r1 hb t e'
    · obtain ⟨t, e'⟩ := r2 hb
      exact ⟨t, old e'⟩
  · obtain ⟨b1, b2, k', e', r1, r2⟩ := h8 b g t e
    refine ⟨b1, b2, k', e', fun hb => old (r1 hb), fun hb t' e2 => ?_⟩
    rcases up e2 with ⟨_, z⟩ | ⟨_, e2⟩
    · subst z; exact nf g e'
    · exact r2 hb t' e2
  · rcases up e' with ⟨_, z⟩ | ⟨_, e'⟩
    · subst z; exact absurd e (nf g)
    · exact h9 g t k' e e'
  · rw [jz_cnt_add hk he]
    omega
theorem jz_more {J' : Nat} (hJ : J ≤ J') (h : jz_P n J F S E q w) : jz_P n J' F S E q w := by
  obtain ⟨h1, h2, r⟩ := h
  exact ⟨fun f k e => ⟨(h1 f k e).1, by have := (h1 f k e).2; omega⟩, fun s k e => ⟨(h2 s k e).1, by have := (h2 s k e).2; omega⟩, r⟩
/-- never more transfers than frames -/
theorem jz_len (h : jz_P n J F S E q w) : q.length ≤ n := by
  obtain ⟨h1, h2, h3, h4, h5, h6, h7, _⟩ := h
  have hb : ∀ x ∈ (q.map fun a => a.2), x < n := fun x m => by
    obtain ⟨⟨b, f⟩, m', e⟩ := List.mem_map.mp m
    simp only at e
    subst e
    obtain ⟨k, e, _⟩ := h7 b f m'
    exact (h1 f k e).1
  have key : ∀ (n : Nat) (l : List Nat), l.Nodup → (∀ x ∈ l, x < n) → l.length ≤ n := by
    intro n
    induction n with
    | zero =>
      intro l _ hl
      cases l with
      | nil => exact Nat.le_refl 0
      | cons a l => exact absurd (hl a List.mem_cons_self) (by omega)
    | succ n ih =>
      intro l hn hl
      by_cases m : n ∈ l
      · have h1 := ih (l.erase n) (hn.erase n) (fun x mx => by
          have mx' := (List.Nodup.mem_erase_iff hn).mp mx
          have := hl x mx'.2
          have := mx'.1
          omega)
        rw [List.length_erase_of_mem m] at h1
        omega
      · have := ih l hn (fun x mx => by
          have := hl x mx
          have : ¬ x = n := fun e => m (by rw [← e]; exact mx)
          omega)
        omega
  have := key n _ h6 hb
  simpa using this
end JZ
