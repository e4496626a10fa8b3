/-! a job's constructor -/
section JG
variable {f : Nat → Option jv_C} {b y k : Nat} {cs : List jv_C}
theorem ju_old {q : Nat} (hq : q < b) : (jv_U f b cs y).1 q = f q := if_pos hq
theorem ju_gfo {q c m : Nat} {z : Nat × Nat} (hq : q < b) : jv_gf (jv_U f b cs y) q c m = jv_gf (f, z) q c m := by
  unfold jv_gf
  rw [ju_old hq]
theorem ju_alo {q : Nat} {ty : FieldType} {j : Int32} {z : Nat × Nat} (hq : q < b) : jv_al (jv_U f b cs y) q ty j = jv_al (f, z) q ty j := by
  unfold jv_al
  rw [ju_old hq]
theorem ju_gf {ci j : Nat} {fs : List Value} {v : Value} (h1 : cs[k]? = some (.inl (ci, fs))) (h2 : fs[j]? = some v) : jv_gf (jv_U f b cs y) (b + k) ci j = some v := jv_gf_of (jv_ups_at h1) h2
theorem ju_as {kd n i : Nat} {g : Nat → Value} {ty : FieldType} {v : Value} (h1 : cs[k]? = some (.inr (kd, n, g))) (hs : ¬ kd = jt_scr) (ht : jt_at[kd]? = some ty) (hi : i < n) (hn : n < 2 ^ 31) : jv_as (jv_U f b cs y) (b + k) ty (nI i) v = some (jv_U f b (cs.set k (.inr (kd, n, updV g i v))) y) := by
  refine (jv_as_of (jv_ups_at h1) hs ht hi hn).trans (congrArg some ?_)
  unfold jv_U
  simp only [jv_ups_set f b cs _ (List.getElem?_eq_some_iff.mp h1).1, List.length_set]
theorem ju_ln {kd n : Nat} {g : Nat → Value} (h1 : cs[k]? = some (.inr (kd, n, g))) : jv_ln (jv_U f b cs y) (b + k) = some n := by
  unfold jv_ln
  rw [show (jv_U f b cs y).1 (b + k) = some (.inr (kd, n, g)) from jv_ups_at h1]
def ju_job (b : Nat) (nu li : Int32) (tp : Value) : jv_C := .inl (4, [.int nu, .int li, .long 0, .ref (b + 1), .int (nI 0), .ref (b + 2), .ref (b + 3), tp, .int (nI 0), .ref (b + 4), .int (nI 0), .int (nI 0), .int (nI 0), .int (nI 0), .null, .int (nI 0)])
def ju_cs (b : Nat) (nu li : Int32) (F : Nat → Value) : List jv_C := [ju_job b nu li .null, .inr (0, 128, fun _ => .int 0), .inr (1, 1024, F), .inr (3, 64, fun _ => .null), .inr (0, 400, fun _ => .int 0)]
def ju_ct (b : Nat) (nu li : Int32) (F : Nat → Value) (n : Nat) (G : Nat → Value) : List jv_C := [ju_job b nu li (.ref (b + 5)), .inr (0, 128, fun _ => .int 0), .inr (1, 1024, F), .inr (3, 64, fun _ => .null), .inr (0, 400, fun _ => .int 0), .inr (0, n, G)]
theorem ju_max {d : Nat} {n : Nat} {h : jv_H} (hn : n < 2 ^ 31) : jv_run (d + 1) 156 [.int (nI n), .int (nI 0)] h = some (some (.int (nI n)), h) := by
  rw [N156]
  by_cases h1 : nI n < nI 0
  · rw [nI_ltI hn (by decide)] at h1
    omega
  · simp (disch := first | omega | exact id rfl | exact jd_i | exact jd_r | exact jd_n | exact jd_f | decide | (simp (disch := omega) only [h1, Option.isSome_some])) only [h1, Option.isSome_some, Option.getD_some, Option.toList_some, Option.toList_none, List.cons_append, List.nil_append, E156_0, E156_1, E156_2, E156_5, E156_6, E156_9, E156_10, if_false]
theorem ju_initA {d tr : Nat} {nu li w : Int32} : jv_ev (jv_run d) 88 0 [some (.ref b), some (.int nu), some (.int li), some (.ref tr), some (.int w), none] [] (jv_U f b [.inl (4, jt_dfl 4)] y) = jv_ev (jv_run d) 88 32 [some (.ref b), some (.int nu), some (.int li), some (.ref tr), some (.int w), none] [] (jv_U f b [.inl (4, [.int 0, .int 0, .long 0, .ref (b + 1), .int (nI 0), .ref (b + 2), .null, .null, .int 0, .null, .int 0, .int 0, .int 0, .int 0, .null, .int 0]), .inr (0, 128, fun _ => .int 0), .inr (1, 1024, fun _ => .long 0)] (y + 128 + 1024)) := by
  simp (disch := first | omega | exact id rfl | exact id (Nat.le_of_ble_eq_true rfl) | (simp (disch := first | exact id rfl | exact id (Nat.le_of_ble_eq_true rfl)) only [jv_U_pf0, Option.isSome_some])) only [E88_0, E88_1, E88_4, E88_5, E88_6, E88_9, E88_10, E88_13, E88_15, E88_18, E88_19, E88_20, E88_23, E88_24, E88_27, E88_29, jv_U_newa, jv_U_sz, jv_U_pf0, Option.getD_some]
  rfl
theorem ju_initB {d tr : Nat} {nu li w : Int32} : jv_ev (jv_run d) 88 32 [some (.ref b), some (.int nu), some (.int li), some (.ref tr), some (.int w), none] [] (jv_U f b [.inl (4, [.int 0, .int 0, .long 0, .ref (b + 1), .int (nI 0), .ref (b + 2), .null, .null, .int 0, .null, .int 0, .int 0, .int 0, .int 0, .null, .int 0]), .inr (0, 128, fun _ => .int 0), .inr (1, 1024, fun _ => .long 0)] (y + 128 + 1024)) = jv_ev (jv_run d) 88 55 [some (.ref b), some (.int nu), some (.int li), some (.ref tr), some (.int w), none] [] (jv_U f b [.inl (4, [.int 0, .int 0, .long 0, .ref (b + 1), .int (nI 0), .ref (b + 2), .ref (b + 3), .null, .int (nI 0), .ref (b + 4), .int 0, .int 0, .int 0, .int 0, .null, .int 0]), .inr (0, 128, fun _ => .int 0), .inr (1, 1024, fun _ => .long 0), .inr (3, 64, fun _ => .null), .inr (0, 400, fun _ => .int 0)] (y + 128 + 1024 + 64 + 400)) := by
  simp (disch := first | omega | exact id rfl | exact id (Nat.le_of_ble_eq_true rfl) | (simp (disch := first | exact id rfl | exact id (Nat.le_of_ble_eq_true rfl)) only [jv_U_pf0, Option.isSome_some])) only [E88_32, E88_33, E88_35, E88_38, E88_41, E88_42, E88_43, E88_46, E88_47, E88_50, E88_52, jv_U_newa, jv_U_sz, jv_U_pf0, Option.getD_some]
  rfl
theorem ju_initC {d tr : Nat} {nu li w : Int32} : jv_ev (jv_run d) 88 55 [some (.ref b), some (.int nu), some (.int li), some (.ref tr), some (.int w), none] [] (jv_U f b [.inl (4, [.int 0, .int 0, .long 0, .ref (b + 1), .int (nI 0), .ref (b + 2), .ref (b + 3), .null, .int (nI 0), .ref (b + 4), .int 0, .int 0, .int 0, .int 0, .null, .int 0]), .inr (0, 128, fun _ => .int 0), .inr (1, 1024, fun _ => .long 0), .inr (3, 64, fun _ => .null), .inr (0, 400, fun _ => .int 0)] (y + 128 + 1024 + 64 + 400)) = jv_ev (jv_run d) 88 75 [some (.ref b), some (.int nu), some (.int li), some (.ref tr), some (.int w), none] [] (jv_U f b [.inl (4, [.int 0, .int 0, .long 0, .ref (b + 1), .int (nI 0), .ref (b + 2), .ref (b + 3), .null, .int (nI 0), .ref (b + 4), .int (nI 0), .int (nI 0), .int (nI 0), .int (nI 0), .null, .int 0]), .inr (0, 128, fun _ => .int 0), .inr (1, 1024, fun _ => .long 0), .inr (3, 64, fun _ => .null), .inr (0, 400, fun _ => .int 0)] (y + 128 + 1024 + 64 + 400)) := by
  simp (disch := first | omega | exact id rfl | exact id (Nat.le_of_ble_eq_true rfl) | (simp (disch := first | exact id rfl | exact id (Nat.le_of_ble_eq_true rfl)) only [jv_U_pf0, Option.isSome_some])) only [E88_55, E88_56, E88_57, E88_60, E88_61, E88_62, E88_65, E88_66, E88_67, E88_70, E88_71, E88_72, jv_U_newa, jv_U_sz, jv_U_pf0, Option.getD_some]
  rfl
theorem ju_initD {d tr : Nat} {nu li w : Int32} : jv_ev (jv_run d) 88 75 [some (.ref b), some (.int nu), some (.int li), some (.ref tr), some (.int w), none] [] (jv_U f b [.inl (4, [.int 0, .int 0, .long 0, .ref (b + 1), .int (nI 0), .ref (b + 2), .ref (b + 3), .null, .int (nI 0), .ref (b + 4), .int (nI 0), .int (nI 0), .int (nI 0), .int (nI 0), .null, .int 0]), .inr (0, 128, fun _ => .int 0), .inr (1, 1024, fun _ => .long 0), .inr (3, 64, fun _ => .null), .inr (0, 400, fun _ => .int 0)] (y + 128 + 1024 + 64 + 400)) = jv_ev (jv_run d) 88 98 [some (.ref b), some (.int nu), some (.int li), some (.ref tr), some (.int w), some (.int (nI 0))] [] (jv_U f b (ju_cs b nu li (fun _ => .long 0)) (y + 128 + 1024 + 64 + 400)) := by
  simp (disch := first | omega | exact id rfl | exact id (Nat.le_of_ble_eq_true rfl) | (simp (disch := first | exact id rfl | exact id (Nat.le_of_ble_eq_true rfl)) only [jv_U_pf0, Option.isSome_some])) only [E88_75, E88_76, E88_77, E88_80, E88_81, E88_82, E88_85, E88_86, E88_87, E88_90, E88_91, E88_92, E88_95, jv_U_newa, jv_U_sz, jv_U_pf0, Option.getD_some]
  rw [E88_96 jd_i]
  rfl
theorem ju_init1 {d tr : Nat} {nu li w : Int32} : jv_ev (jv_run d) 88 0 [some (.ref b), some (.int nu), some (.int li), some (.ref tr), some (.int w), none] [] (jv_U f b [.inl (4, jt_dfl 4)] y) = jv_ev (jv_run d) 88 98 [some (.ref b), some (.int nu), some (.int li), some (.ref tr), some (.int w), some (.int (nI 0))] [] (jv_U f b (ju_cs b nu li (fun _ => .long 0)) (y + 128 + 1024 + 64 + 400)) := by rw [ju_initA, ju_initB, ju_initC, ju_initD]
theorem ju_upL {F : Nat → Value} {i : Nat} {v : Int64} (hF : ∀ j, ∃ v : Int64, F j = .long v) : ∀ j, ∃ u : Int64, updV F i (.long v) j = .long u := fun j => by
  unfold updV
  split
  · exact ⟨v, rfl⟩
  · exact hF j
theorem ju_upI {F : Nat → Value} {i : Nat} {v : Int32} (hF : ∀ j, ∃ v : Int32, F j = .int v) : ∀ j, ∃ u : Int32, updV F i (.int v) j = .int u := fun j => by
  unfold updV
  split
  · exact ⟨v, rfl⟩
  · exact hF j
/-- the program's words -/
theorem ju_loop1 {d tr wr : Nat} {nu li w : Int32} {z : Nat × Nat} (htr : tr < b) (hwr : wr < b) (e1 : jv_gf (f, z) tr 5 0 = some (.ref wr)) (e2 : ∀ i, i < 1000 → ∃ v : Int64, jv_al (f, z) wr .long (nI i) = some (.long v)) : ∀ (t i : Nat), i + t = 1000 → ∀ (F : Nat → Value), (∀ j, ∃ v : Int64, F j = .long v) → ∃ F' i', (∀ j, ∃ v : Int64, F' j = .long v) ∧ jv_ev (jv_run d) 88 98 [some (.ref b), some (.int nu), some (.int li), some (.ref tr), some (.int w), some (.int (nI i))] [] (jv_U f b (ju_cs b nu li F) y) = jv_ev (jv_run d) 88 133 [some (.ref b), some (.int nu), some (.int li), some (.ref tr), some (.int w), some (.int i')] [] (jv_U f b (ju_cs b nu li F') y)
  | 0, i, hi, F, hF => by
    have e : i = 1000 := by omega
    subst e
    refine ⟨F, nI 1000, hF, ?_⟩
    have b1 : nI 1000 ≤ nI 1000 := by decide
    by_cases h1 : w ≤ nI 1000
    · simp (disch := first | omega | exact id rfl | exact jd_i | exact jd_r | exact jd_n | exact jd_f | decide | (simp (disch := omega) only [h1, Option.isSome_some])) only [h1, Option.isSome_some, Option.getD_some, Option.toList_some, Option.toList_none, List.cons_append, List.nil_append, E88_98, E88_100, E88_102, if_true]
    · simp (disch := first | omega | exact id rfl | exact jd_i | exact jd_r | exact jd_n | exact jd_f | decide | (simp (disch := omega) only [h1, b1, Option.isSome_some])) only [h1, b1, Option.isSome_some, Option.getD_some, Option.toList_some, Option.toList_none, List.cons_append, List.nil_append, E88_98, E88_100, E88_102, E88_105, E88_107, E88_110, if_true, if_false]
  | t + 1, i, hi, F, hF => by
    by_cases h1 : w ≤ nI i
    · refine ⟨F, nI i, hF, ?_⟩
      simp (disch := first | omega | exact id rfl | exact jd_i | exact jd_r | exact jd_n | exact jd_f | decide | (simp (disch := omega) only [h1, Option.isSome_some])) only [h1, Option.isSome_some, Option.getD_some, Option.toList_some, Option.toList_none, List.cons_append, List.nil_append, E88_98, E88_100, E88_102, if_true]
    · have b1 : ¬ nI 1000 ≤ nI i := by rw [nI_leI (by decide) (by omega)]; omega
      obtain ⟨v, e3⟩ := e2 i (by omega)
      have g1 : jv_gf (jv_U f b (ju_cs b nu li F) y) tr 5 0 = some (.ref wr) := (ju_gfo htr).trans e1
      have g2 : jv_al (jv_U f b (ju_cs b nu li F) y) wr .long (nI i) = some (.long v) := (ju_alo hwr).trans e3
      have g3 : jv_gf (jv_U f b (ju_cs b nu li F) y) b 4 5 = some (.ref (b + 2)) := ju_gf (k := 0) rfl rfl
      have g4 : jv_as (jv_U f b (ju_cs b nu li F) y) (b + 2) .long (nI i) (.long v) = some (jv_U f b (ju_cs b nu li (updV F i (.long v))) y) := ju_as (k := 2) (kd := 1) rfl (by decide) rfl (by omega) (by decide)
      obtain ⟨F', i', hF', e'⟩ := ju_loop1 htr hwr e1 e2 t (i + 1) (by omega) (updV F i (.long v)) (ju_upL hF)
      refine ⟨F', i', hF', ?_⟩
      rw [← e', E88_98]
      simp (disch := first | omega | exact id rfl | exact jd_i | exact jd_r | exact jd_n | exact jd_f | decide | (simp (disch := omega) only [h1, b1, g1, g2, g3, g4, nI_add, Option.isSome_some])) only [h1, b1, g1, g2, g3, g4, nI_add, Option.isSome_some, Option.getD_some, Option.toList_some, Option.toList_none, List.cons_append, List.nil_append, E88_100, E88_102, E88_105, E88_107, E88_110, E88_113, E88_114, E88_117, E88_119, E88_120, E88_123, E88_125, E88_126, E88_127, E88_130, if_false]
/-- the tape -/
theorem ju_loop2 {d tr br n : Nat} {nu li w : Int32} {z : Nat × Nat} {F : Nat → Value} (hn : n ≤ 2000) (htr : tr < b) (hbr : br < b) (e1 : jv_gf (f, z) tr 5 1 = some (.ref br)) (e2 : ∀ i, i < 2000 → ∃ v : Int32, jv_al (f, z) br .int (nI i) = some (.int v)) : ∀ (t i : Nat), i + t = n → ∀ (G : Nat → Value), (∀ j, ∃ v : Int32, G j = .int v) → ∃ G', (∀ j, ∃ v : Int32, G' j = .int v) ∧ jv_ev (jv_run d) 88 150 [some (.ref b), some (.int nu), some (.int li), some (.ref tr), some (.int w), some (.int (nI i))] [] (jv_U f b (ju_ct b nu li F n G) y) = some (none, jv_U f b (ju_ct b nu li F n G') y)
  | 0, i, hi, G, hG => by
    have e : i = n := by omega
    subst e
    refine ⟨G, hG, ?_⟩
    have b1 : nI i ≤ nI i := by rw [nI_leI (by omega) (by omega)]; exact Nat.le_refl _
    have g1 : jv_gf (jv_U f b (ju_ct b nu li F i G) y) b 4 7 = some (.ref (b + 5)) := ju_gf (k := 0) rfl rfl
    have g2 : jv_ln (jv_U f b (ju_ct b nu li F i G) y) (b + 5) = some i := ju_ln (k := 5) rfl
    simp (disch := first | omega | exact id rfl | exact jd_i | exact jd_r | exact jd_n | exact jd_f | decide | (simp (disch := omega) only [b1, g1, g2, Option.isSome_some])) only [b1, g1, g2, Option.isSome_some, Option.getD_some, Option.toList_some, Option.toList_none, List.cons_append, List.nil_append, E88_150, E88_152, E88_153, E88_156, E88_157, E88_188, if_true]
  | t + 1, i, hi, G, hG => by
    have b1 : ¬ nI n ≤ nI i := by rw [nI_leI (by omega) (by omega)]; omega
    have b2 : ¬ nI 2000 ≤ nI i := by rw [nI_leI (by decide) (by omega)]; omega
    obtain ⟨v, e3⟩ := e2 i (by omega)
    have g1 : jv_gf (jv_U f b (ju_ct b nu li F n G) y) b 4 7 = some (.ref (b + 5)) := ju_gf (k := 0) rfl rfl
    have g2 : jv_ln (jv_U f b (ju_ct b nu li F n G) y) (b + 5) = some n := ju_ln (k := 5) rfl
    have g3 : jv_gf (jv_U f b (ju_ct b nu li F n G) y) tr 5 1 = some (.ref br) := (ju_gfo htr).trans e1
    have g4 : jv_al (jv_U f b (ju_ct b nu li F n G) y) br .int (nI i) = some (.int v) := (ju_alo hbr).trans e3
    have g5 : jv_as (jv_U f b (ju_ct b nu li F n G) y) (b + 5) .int (nI i) (.int v) = some (jv_U f b (ju_ct b nu li F n (updV G i (.int v))) y) := ju_as (k := 5) (kd := 0) rfl (by decide) rfl (by omega) (by omega)
    obtain ⟨G', hG', e'⟩ := ju_loop2 (d := d) (w := w) hn htr hbr e1 e2 t (i + 1) (by omega) (updV G i (.int v)) (ju_upI hG)
    refine ⟨G', hG', ?_⟩
    rw [← e', E88_150]
    simp (disch := first | omega | exact id rfl | exact jd_i | exact jd_r | exact jd_n | exact jd_f | decide | (simp (disch := omega) only [b1, b2, g1, g2, g3, g4, g5, nI_add, Option.isSome_some])) only [b1, b2, g1, g2, g3, g4, g5, nI_add, Option.isSome_some, Option.getD_some, Option.toList_some, Option.toList_none, List.cons_append, List.nil_append, E88_152, E88_153, E88_156, E88_157, E88_160, E88_162, E88_165, E88_168, E88_169, E88_172, E88_174, E88_175, E88_178, E88_180, E88_181, E88_182, E88_185, if_false]
theorem ju_Job_init {d tr wr br n : Nat} {nu li w : Int32} {z : Nat × Nat} (hn : n ≤ 2000) (htr : tr < b) (hwr : wr < b) (hbr : br < b) (e1 : jv_gf (f, z) tr 5 0 = some (.ref wr)) (e2 : ∀ i, i < 1000 → ∃ v : Int64, jv_al (f, z) wr .long (nI i) = some (.long v)) (e3 : jv_gf (f, z) tr 5 1 = some (.ref br)) (e4 : ∀ i, i < 2000 → ∃ v : Int32, jv_al (f, z) br .int (nI i) = some (.int v)) (e5 : jv_gf (f, z) tr 5 3 = some (.int (nI n))) : ∃ F G, (∀ j, ∃ v : Int64, F j = .long v) ∧ (∀ j, ∃ v : Int32, G j = .int v) ∧ jv_run (d + 2) 88 [.ref b, .int nu, .int li, .ref tr, .int w] (jv_U f b [.inl (4, jt_dfl 4)] y) = some (none, jv_U f b (ju_ct b nu li F n G) (y + 128 + 1024 + 64 + 400 + n)) := by
  obtain ⟨F, i', hF, k1⟩ := ju_loop1 (d := d + 1) (nu := nu) (li := li) (w := w) (y := y + 128 + 1024 + 64 + 400) htr hwr e1 e2 1000 0 rfl (fun _ => .long 0) (fun _ => ⟨0, rfl⟩)
  obtain ⟨G, hG, k2⟩ := ju_loop2 (d := d + 1) (nu := nu) (li := li) (w := w) (F := F) (y := y + 128 + 1024 + 64 + 400 + n) hn htr hbr e3 e4 n 0 (by omega) (fun _ => .int 0) (fun _ => ⟨0, rfl⟩)
  refine ⟨F, G, hF, hG, ?_⟩
  rw [show jv_run (d + 2) 88 [.ref b, .int nu, .int li, .ref tr, .int w] (jv_U f b [.inl (4, jt_dfl 4)] y) = jv_ev (jv_run (d + 1)) 88 0 [some (.ref b), some (.int nu), some (.int li), some (.ref tr), some (.int w), none] [] (jv_U f b [.inl (4, jt_dfl 4)] y) from N88 (a2 := some tr)]
  rw [ju_init1, k1, ← k2]
  have g1 : jv_gf (jv_U f b (ju_cs b nu li F) (y + 128 + 1024 + 64 + 400)) tr 5 3 = some (.int (nI n)) := (ju_gfo htr).trans e5
  have m1 := ju_max (d := d) (n := n) (h := jv_U f b (ju_cs b nu li F) (y + 128 + 1024 + 64 + 400)) (by omega)
  have g2 : jv_newa (jv_U f b (ju_cs b nu li F) (y + 128 + 1024 + 64 + 400)) 0 n (.int 0) = jv_U f b (ju_cs b nu li F ++ [.inr (0, n, fun _ => .int 0)]) (y + 128 + 1024 + 64 + 400 + n) := jv_U_newa
  have g3 : (jv_U f b (ju_cs b nu li F) (y + 128 + 1024 + 64 + 400)).2.1 = b + 5 := rfl
  have g4 : jv_pf (jv_U f b (ju_cs b nu li F ++ [.inr (0, n, fun _ => .int 0)]) (y + 128 + 1024 + 64 + 400 + n)) b 4 7 (.ref (b + 5)) = some (jv_U f b (ju_ct b nu li F n (fun _ => .int 0)) (y + 128 + 1024 + 64 + 400 + n)) := (jv_U_pf0 rfl (Nat.le_of_ble_eq_true rfl) rfl rfl).trans rfl
  have hle : n ≤ 100000 := by omega
  simp (disch := first | omega | exact id rfl | exact jd_i | exact jd_r | exact jd_n | exact jd_f | decide | (simp (disch := omega) only [g1, m1, g2, g3, g4, hle, Option.isSome_some])) only [g1, m1, g2, g3, g4, hle, Option.isSome_some, Option.getD_some, Option.toList_some, Option.toList_none, List.cons_append, List.nil_append, E88_133, E88_134, E88_135, E88_138, E88_139, E88_142, E88_144, E88_147, E88_148]
end JG
