/-! the law's cases -/
section JW3
variable {h : jv_H} {b0 s0 x m b N i : Nat} {xs : Nat → Int32}
theorem jl_S_M (hS : jl_S b N xs x m b0 s0 h) : jl_M b N xs m h := by
  obtain ⟨ρ, I, A, L, hS0, _⟩ := hS
  exact jl_M_of hS0
theorem jl_S_x (hS : jl_S b N xs x m b0 s0 h) : jv_cl h x = some 6 := by
  obtain ⟨ρ, I, A, L, hS0, _⟩ := hS
  exact jl_cx hS0
theorem jl_S_n (hS : jl_S b N xs x m b0 s0 h) : jv_ln h b = some N := by
  obtain ⟨ρ, I, A, L, hS0, _⟩ := hS
  exact jl_lnb hS0
theorem jl_k_frames (hi : i + 11 ≤ N) (hN : N ≤ 5632) (hS : jl_S b N xs x m b0 s0 h) : ∃ h2, jv_ev (jv_run 8) 163 112 [some (.ref b), some (.ref x), some (.ref m), some (.int (nI i))] [] h = jv_ev (jv_run 8) 163 878 [some (.ref b), some (.ref x), some (.ref m), some (.int (nI i))] [] h2 ∧ jl_S b N xs x m b0 s0 h2 := by
  have M0 := jl_S_M hS
  have cx := jl_S_x hS
  obtain ⟨v, h1, h2, e1, e2, M1, hS2⟩ := jl_frames (f := xs (i + 1)) hS
  refine ⟨h2, ?_, hS2⟩
  have cm : jv_cl h1 m = some 0 := M1.2
  have al0 : ∀ j, j < 11 → jv_al h b .int (nI (i + j)) = some (.int (xs (i + j))) := fun j hj => M0.1 (i + j) (by omega) (by omega)
  have al1 : ∀ j, j < 11 → jv_al h1 b .int (nI (i + j)) = some (.int (xs (i + j))) := fun j hj => M1.1 (i + j) (by omega) (by omega)
  simp (disch := first | omega | exact id rfl | exact jd_i | exact jd_r | exact jd_n | decide | (simp (disch := first | omega | decide) only [cx, cm, e1, e2, al0, al1, Option.isSome_some])) only [cx, cm, e1, e2, al0, al1, Option.isSome_some, Option.getD_some, Option.toList_some, Option.toList_none, List.cons_append, List.nil_append, E163_112, E163_113, E163_114, E163_115, E163_116, E163_117, E163_118, E163_121, E163_122, E163_123, E163_124, E163_125, E163_126, E163_127, E163_130, E163_133, E163_134, nI_add, if_true]
theorem jl_k_words (hi : i + 11 ≤ N) (hN : N ≤ 5632) (hS : jl_S b N xs x m b0 s0 h) : ∃ h2, jv_ev (jv_run 8) 163 135 [some (.ref b), some (.ref x), some (.ref m), some (.int (nI i))] [] h = jv_ev (jv_run 8) 163 878 [some (.ref b), some (.ref x), some (.ref m), some (.int (nI i))] [] h2 ∧ jl_S b N xs x m b0 s0 h2 := by
  have M0 := jl_S_M hS
  have cx := jl_S_x hS
  obtain ⟨v, w, h1, h2, e1, e2, M1, hS2⟩ := jl_words (a0 := ((xs (i + 1)).toInt64 <<< ((nI 32).toInt64 &&& 63) ||| ((xs (i + 2)).toInt64 &&& 4294967295))) (a1 := ((xs (i + 3)).toInt64 <<< ((nI 32).toInt64 &&& 63) ||| ((xs (i + 4)).toInt64 &&& 4294967295))) (a2 := ((xs (i + 5)).toInt64 <<< ((nI 32).toInt64 &&& 63) ||| ((xs (i + 6)).toInt64 &&& 4294967295))) (a3 := ((xs (i + 7)).toInt64 <<< ((nI 32).toInt64 &&& 63) ||| ((xs (i + 8)).toInt64 &&& 4294967295))) (a4 := ((xs (i + 9)).toInt64 <<< ((nI 32).toInt64 &&& 63) ||| ((xs (i + 10)).toInt64 &&& 4294967295))) hS
  refine ⟨h2, ?_, hS2⟩
  have cm : jv_cl h1 m = some 0 := M1.2
  have al0 : ∀ j, j < 11 → jv_al h b .int (nI (i + j)) = some (.int (xs (i + j))) := fun j hj => M0.1 (i + j) (by omega) (by omega)
  have al1 : ∀ j, j < 11 → jv_al h1 b .int (nI (i + j)) = some (.int (xs (i + j))) := fun j hj => M1.1 (i + j) (by omega) (by omega)
  simp (disch := first | omega | exact id rfl | exact jd_i | exact jd_r | exact jd_n | decide | (simp (disch := first | omega | decide) only [cx, cm, e1, e2, al0, al1, Option.isSome_some])) only [cx, cm, e1, e2, al0, al1, Option.isSome_some, Option.getD_some, Option.toList_some, Option.toList_none, List.cons_append, List.nil_append, E163_135, E163_136, E163_137, E163_138, E163_139, E163_140, E163_141, E163_142, E163_144, E163_145, E163_146, E163_147, E163_148, E163_149, E163_150, E163_151, E163_154, E163_155, E163_156, E163_157, E163_158, E163_159, E163_160, E163_161, E163_162, E163_164, E163_165, E163_166, E163_167, E163_168, E163_169, E163_170, E163_171, E163_174, E163_175, E163_176, E163_177, E163_178, E163_179, E163_180, E163_181, E163_182, E163_184, E163_185, E163_186, E163_187, E163_189, E163_190, E163_191, E163_192, E163_195, E163_196, E163_197, E163_198, E163_199, E163_201, E163_202, E163_203, E163_204, E163_206, E163_207, E163_208, E163_209, E163_211, E163_212, E163_213, E163_214, E163_217, E163_218, E163_219, E163_220, E163_221, E163_223, E163_224, E163_225, E163_226, E163_228, E163_229, E163_230, E163_231, E163_233, E163_234, E163_235, E163_236, E163_239, E163_240, E163_241, E163_244, E163_245, E163_246, E163_247, E163_248, E163_249, E163_250, E163_251, E163_252, E163_254, E163_255, E163_256, E163_257, E163_258, E163_259, E163_260, E163_261, E163_264, E163_265, E163_266, E163_267, E163_268, E163_269, E163_270, E163_271, E163_272, E163_274, E163_275, E163_276, E163_277, E163_278, E163_279, E163_280, E163_281, E163_284, E163_285, E163_286, E163_287, E163_288, E163_289, E163_290, E163_291, E163_292, E163_294, E163_295, E163_296, E163_297, E163_299, E163_300, E163_301, E163_302, E163_305, E163_306, E163_307, E163_308, E163_309, E163_311, E163_312, E163_313, E163_314, E163_316, E163_317, E163_318, E163_319, E163_321, E163_322, E163_323, E163_324, E163_327, E163_328, E163_329, E163_330, E163_331, E163_333, E163_334, E163_335, E163_336, E163_338, E163_339, E163_340, E163_341, E163_343, E163_344, E163_345, E163_346, E163_349, E163_350, E163_351, E163_354, E163_355, nI_add]
theorem jl_k_bytes (hi : i + 11 ≤ N) (hN : N ≤ 5632) (hS : jl_S b N xs x m b0 s0 h) : ∃ h2, jv_ev (jv_run 8) 163 358 [some (.ref b), some (.ref x), some (.ref m), some (.int (nI i))] [] h = jv_ev (jv_run 8) 163 878 [some (.ref b), some (.ref x), some (.ref m), some (.int (nI i))] [] h2 ∧ jl_S b N xs x m b0 s0 h2 := by
  have M0 := jl_S_M hS
  have cx := jl_S_x hS
  obtain ⟨v, w, h1, h2, e1, e2, M1, hS2⟩ := jl_bytes (a0 := ((xs (i + 1)).toInt64 <<< ((nI 32).toInt64 &&& 63) ||| ((xs (i + 2)).toInt64 &&& 4294967295))) (a1 := ((xs (i + 3)).toInt64 <<< ((nI 32).toInt64 &&& 63) ||| ((xs (i + 4)).toInt64 &&& 4294967295))) (a2 := ((xs (i + 5)).toInt64 <<< ((nI 32).toInt64 &&& 63) ||| ((xs (i + 6)).toInt64 &&& 4294967295))) (a3 := ((xs (i + 7)).toInt64 <<< ((nI 32).toInt64 &&& 63) ||| ((xs (i + 8)).toInt64 &&& 4294967295))) (k := xs (i + 9)) hS
  refine ⟨h2, ?_, hS2⟩
  have cm : jv_cl h1 m = some 0 := M1.2
  have al0 : ∀ j, j < 11 → jv_al h b .int (nI (i + j)) = some (.int (xs (i + j))) := fun j hj => M0.1 (i + j) (by omega) (by omega)
  have al1 : ∀ j, j < 11 → jv_al h1 b .int (nI (i + j)) = some (.int (xs (i + j))) := fun j hj => M1.1 (i + j) (by omega) (by omega)
  simp (disch := first | omega | exact id rfl | exact jd_i | exact jd_r | exact jd_n | decide | (simp (disch := first | omega | decide) only [cx, cm, e1, e2, al0, al1, Option.isSome_some])) only [cx, cm, e1, e2, al0, al1, Option.isSome_some, Option.getD_some, Option.toList_some, Option.toList_none, List.cons_append, List.nil_append, E163_358, E163_359, E163_360, E163_361, E163_362, E163_363, E163_364, E163_365, E163_367, E163_368, E163_369, E163_370, E163_371, E163_372, E163_373, E163_374, E163_377, E163_378, E163_379, E163_380, E163_381, E163_382, E163_383, E163_384, E163_385, E163_387, E163_388, E163_389, E163_390, E163_391, E163_392, E163_393, E163_394, E163_397, E163_398, E163_399, E163_400, E163_401, E163_402, E163_403, E163_404, E163_405, E163_407, E163_408, E163_409, E163_410, E163_412, E163_413, E163_414, E163_415, E163_418, E163_419, E163_420, E163_421, E163_422, E163_424, E163_425, E163_426, E163_427, E163_429, E163_430, E163_431, E163_432, E163_434, E163_435, E163_436, E163_437, E163_440, E163_441, E163_442, E163_443, E163_444, E163_446, E163_447, E163_448, E163_451, E163_452, E163_453, E163_454, E163_455, E163_456, E163_457, E163_458, E163_459, E163_461, E163_462, E163_463, E163_464, E163_465, E163_466, E163_467, E163_468, E163_471, E163_472, E163_473, E163_474, E163_475, E163_476, E163_477, E163_478, E163_479, E163_481, E163_482, E163_483, E163_484, E163_485, E163_486, E163_487, E163_488, E163_491, E163_492, E163_493, E163_494, E163_495, E163_496, E163_497, E163_498, E163_499, E163_501, E163_502, E163_503, E163_504, E163_506, E163_507, E163_508, E163_509, E163_512, E163_513, E163_514, E163_515, E163_516, E163_518, E163_519, E163_520, E163_521, E163_523, E163_524, E163_525, E163_526, E163_528, E163_529, E163_530, E163_531, E163_534, E163_535, E163_536, E163_537, E163_538, E163_540, E163_541, E163_542, E163_545, E163_546, nI_add]
theorem jl_k_job (hi : i + 11 ≤ N) (hN : N ≤ 5632) (hS : jl_S b N xs x m b0 s0 h) : ∃ h2, jv_ev (jv_run 8) 163 549 [some (.ref b), some (.ref x), some (.ref m), some (.int (nI i))] [] h = jv_ev (jv_run 8) 163 878 [some (.ref b), some (.ref x), some (.ref m), some (.int (nI i))] [] h2 ∧ jl_S b N xs x m b0 s0 h2 := by
  have M0 := jl_S_M hS
  have cx := jl_S_x hS
  obtain ⟨v, w, h1, h2, e1, e2, M1, hS2⟩ := jl_job (li := xs (i + 1)) (k := xs (i + 2)) hS
  refine ⟨h2, ?_, hS2⟩
  have cm : jv_cl h1 m = some 0 := M1.2
  have al0 : ∀ j, j < 11 → jv_al h b .int (nI (i + j)) = some (.int (xs (i + j))) := fun j hj => M0.1 (i + j) (by omega) (by omega)
  have al1 : ∀ j, j < 11 → jv_al h1 b .int (nI (i + j)) = some (.int (xs (i + j))) := fun j hj => M1.1 (i + j) (by omega) (by omega)
  simp (disch := first | omega | exact id rfl | exact jd_i | exact jd_r | exact jd_n | decide | (simp (disch := first | omega | decide) only [cx, cm, e1, e2, al0, al1, Option.isSome_some])) only [cx, cm, e1, e2, al0, al1, Option.isSome_some, Option.getD_some, Option.toList_some, Option.toList_none, List.cons_append, List.nil_append, E163_549, E163_550, E163_551, E163_552, E163_553, E163_554, E163_555, E163_556, E163_557, E163_558, E163_559, E163_560, E163_563, E163_564, E163_565, E163_566, E163_567, E163_568, E163_569, E163_570, E163_571, E163_572, E163_573, E163_574, E163_575, E163_578, E163_579, nI_add]
theorem jl_k_run (hi : i + 11 ≤ N) (hN : N ≤ 5632) (hS : jl_S b N xs x m b0 s0 h) : ∃ h2, jv_ev (jv_run 8) 163 582 [some (.ref b), some (.ref x), some (.ref m), some (.int (nI i))] [] h = jv_ev (jv_run 8) 163 878 [some (.ref b), some (.ref x), some (.ref m), some (.int (nI i))] [] h2 ∧ jl_S b N xs x m b0 s0 h2 := by
  have M0 := jl_S_M hS
  have cx := jl_S_x hS
  obtain ⟨v, w, h1, h2, e1, e2, M1, hS2⟩ := jl_run (y := xs (i + 1)) hS
  refine ⟨h2, ?_, hS2⟩
  have cm : jv_cl h1 m = some 0 := M1.2
  have al0 : ∀ j, j < 11 → jv_al h b .int (nI (i + j)) = some (.int (xs (i + j))) := fun j hj => M0.1 (i + j) (by omega) (by omega)
  have al1 : ∀ j, j < 11 → jv_al h1 b .int (nI (i + j)) = some (.int (xs (i + j))) := fun j hj => M1.1 (i + j) (by omega) (by omega)
  simp (disch := first | omega | exact id rfl | exact jd_i | exact jd_r | exact jd_n | decide | (simp (disch := first | omega | decide) only [cx, cm, e1, e2, al0, al1, Option.isSome_some])) only [cx, cm, e1, e2, al0, al1, Option.isSome_some, Option.getD_some, Option.toList_some, Option.toList_none, List.cons_append, List.nil_append, E163_582, E163_583, E163_584, E163_585, E163_586, E163_587, E163_588, E163_591, E163_592, E163_593, E163_594, E163_595, E163_596, E163_597, E163_598, E163_601, E163_602, nI_add]
theorem jl_k_ended (hi : i + 11 ≤ N) (hN : N ≤ 5632) (hS : jl_S b N xs x m b0 s0 h) : ∃ h2, jv_ev (jv_run 8) 163 605 [some (.ref b), some (.ref x), some (.ref m), some (.int (nI i))] [] h = jv_ev (jv_run 8) 163 878 [some (.ref b), some (.ref x), some (.ref m), some (.int (nI i))] [] h2 ∧ jl_S b N xs x m b0 s0 h2 := by
  have M0 := jl_S_M hS
  have cx := jl_S_x hS
  obtain ⟨v, w, h1, h2, e1, e2, M1, hS2⟩ := jl_leafI (as := [.ref x, .int (xs (i + 1))]) (rs := [.ref m, .int (xs (i + 1))]) hS (jc_s128 6) rfl (fun ρ hx => ⟨Or.inr ⟨x, rfl, hx⟩, jk_V_top, True.intro⟩) jl_r49
  refine ⟨h2, ?_, hS2⟩
  have cm : jv_cl h1 m = some 0 := M1.2
  have al0 : ∀ j, j < 11 → jv_al h b .int (nI (i + j)) = some (.int (xs (i + j))) := fun j hj => M0.1 (i + j) (by omega) (by omega)
  have al1 : ∀ j, j < 11 → jv_al h1 b .int (nI (i + j)) = some (.int (xs (i + j))) := fun j hj => M1.1 (i + j) (by omega) (by omega)
  simp (disch := first | omega | exact id rfl | exact jd_i | exact jd_r | exact jd_n | decide | (simp (disch := first | omega | decide) only [cx, cm, e1, e2, al0, al1, Option.isSome_some])) only [cx, cm, e1, e2, al0, al1, Option.isSome_some, Option.getD_some, Option.toList_some, Option.toList_none, List.cons_append, List.nil_append, E163_605, E163_606, E163_607, E163_608, E163_609, E163_610, E163_611, E163_614, E163_615, E163_616, E163_617, E163_618, E163_619, E163_620, E163_621, E163_624, E163_625, nI_add]
theorem jl_k_done (hi : i + 11 ≤ N) (hN : N ≤ 5632) (hS : jl_S b N xs x m b0 s0 h) : ∃ h2, jv_ev (jv_run 8) 163 628 [some (.ref b), some (.ref x), some (.ref m), some (.int (nI i))] [] h = jv_ev (jv_run 8) 163 878 [some (.ref b), some (.ref x), some (.ref m), some (.int (nI i))] [] h2 ∧ jl_S b N xs x m b0 s0 h2 := by
  have M0 := jl_S_M hS
  have cx := jl_S_x hS
  obtain ⟨v, w, h1, h2, e1, e2, M1, hS2⟩ := jl_leafI (as := [.ref x, .int (xs (i + 1))]) (rs := [.ref m, .int (xs (i + 1))]) hS (jc_s129 6) rfl (fun ρ hx => ⟨Or.inr ⟨x, rfl, hx⟩, jk_V_top, True.intro⟩) jl_r50
  refine ⟨h2, ?_, hS2⟩
  have cm : jv_cl h1 m = some 0 := M1.2
  have al0 : ∀ j, j < 11 → jv_al h b .int (nI (i + j)) = some (.int (xs (i + j))) := fun j hj => M0.1 (i + j) (by omega) (by omega)
  have al1 : ∀ j, j < 11 → jv_al h1 b .int (nI (i + j)) = some (.int (xs (i + j))) := fun j hj => M1.1 (i + j) (by omega) (by omega)
  simp (disch := first | omega | exact id rfl | exact jd_i | exact jd_r | exact jd_n | decide | (simp (disch := first | omega | decide) only [cx, cm, e1, e2, al0, al1, Option.isSome_some])) only [cx, cm, e1, e2, al0, al1, Option.isSome_some, Option.getD_some, Option.toList_some, Option.toList_none, List.cons_append, List.nil_append, E163_628, E163_629, E163_630, E163_631, E163_632, E163_633, E163_634, E163_637, E163_638, E163_639, E163_640, E163_641, E163_642, E163_643, E163_644, E163_647, E163_648, nI_add]
theorem jl_k_printed (hi : i + 11 ≤ N) (hN : N ≤ 5632) (hS : jl_S b N xs x m b0 s0 h) : ∃ h2, jv_ev (jv_run 8) 163 651 [some (.ref b), some (.ref x), some (.ref m), some (.int (nI i))] [] h = jv_ev (jv_run 8) 163 878 [some (.ref b), some (.ref x), some (.ref m), some (.int (nI i))] [] h2 ∧ jl_S b N xs x m b0 s0 h2 := by
  have M0 := jl_S_M hS
  have cx := jl_S_x hS
  obtain ⟨v, w, h1, h2, e1, e2, M1, hS2⟩ := jl_leafI (as := [.ref x, .int (xs (i + 1))]) (rs := [.ref m, .int (xs (i + 1))]) hS (jc_s130 6) rfl (fun ρ hx => ⟨Or.inr ⟨x, rfl, hx⟩, jk_V_top, True.intro⟩) jl_r51
  refine ⟨h2, ?_, hS2⟩
  have cm : jv_cl h1 m = some 0 := M1.2
  have al0 : ∀ j, j < 11 → jv_al h b .int (nI (i + j)) = some (.int (xs (i + j))) := fun j hj => M0.1 (i + j) (by omega) (by omega)
  have al1 : ∀ j, j < 11 → jv_al h1 b .int (nI (i + j)) = some (.int (xs (i + j))) := fun j hj => M1.1 (i + j) (by omega) (by omega)
  simp (disch := first | omega | exact id rfl | exact jd_i | exact jd_r | exact jd_n | decide | (simp (disch := first | omega | decide) only [cx, cm, e1, e2, al0, al1, Option.isSome_some])) only [cx, cm, e1, e2, al0, al1, Option.isSome_some, Option.getD_some, Option.toList_some, Option.toList_none, List.cons_append, List.nil_append, E163_651, E163_652, E163_653, E163_654, E163_655, E163_656, E163_657, E163_660, E163_661, E163_662, E163_663, E163_664, E163_665, E163_666, E163_667, E163_670, E163_671, nI_add]
theorem jl_k_out (hi : i + 11 ≤ N) (hN : N ≤ 5632) (hS : jl_S b N xs x m b0 s0 h) : ∃ h2, jv_ev (jv_run 8) 163 674 [some (.ref b), some (.ref x), some (.ref m), some (.int (nI i))] [] h = jv_ev (jv_run 8) 163 878 [some (.ref b), some (.ref x), some (.ref m), some (.int (nI i))] [] h2 ∧ jl_S b N xs x m b0 s0 h2 := by
  have M0 := jl_S_M hS
  have cx := jl_S_x hS
  obtain ⟨v, w, h1, h2, e1, e2, M1, hS2⟩ := jl_leafI (as := [.ref x, .int (xs (i + 1)), .int (xs (i + 2))]) (rs := [.ref m, .int (xs (i + 1)), .int (xs (i + 2))]) hS (jc_s131 6) rfl (fun ρ hx => ⟨Or.inr ⟨x, rfl, hx⟩, jk_V_top, jk_V_top, True.intro⟩) jl_r52
  refine ⟨h2, ?_, hS2⟩
  have cm : jv_cl h1 m = some 0 := M1.2
  have al0 : ∀ j, j < 11 → jv_al h b .int (nI (i + j)) = some (.int (xs (i + j))) := fun j hj => M0.1 (i + j) (by omega) (by omega)
  have al1 : ∀ j, j < 11 → jv_al h1 b .int (nI (i + j)) = some (.int (xs (i + j))) := fun j hj => M1.1 (i + j) (by omega) (by omega)
  simp (disch := first | omega | exact id rfl | exact jd_i | exact jd_r | exact jd_n | decide | (simp (disch := first | omega | decide) only [cx, cm, e1, e2, al0, al1, Option.isSome_some])) only [cx, cm, e1, e2, al0, al1, Option.isSome_some, Option.getD_some, Option.toList_some, Option.toList_none, List.cons_append, List.nil_append, E163_674, E163_675, E163_676, E163_677, E163_678, E163_679, E163_680, E163_681, E163_682, E163_683, E163_684, E163_685, E163_688, E163_689, E163_690, E163_691, E163_692, E163_693, E163_694, E163_695, E163_696, E163_697, E163_698, E163_699, E163_700, E163_703, E163_704, nI_add]
theorem jl_k_register (hi : i + 11 ≤ N) (hN : N ≤ 5632) (hS : jl_S b N xs x m b0 s0 h) : ∃ h2, jv_ev (jv_run 8) 163 707 [some (.ref b), some (.ref x), some (.ref m), some (.int (nI i))] [] h = jv_ev (jv_run 8) 163 878 [some (.ref b), some (.ref x), some (.ref m), some (.int (nI i))] [] h2 ∧ jl_S b N xs x m b0 s0 h2 := by
  have M0 := jl_S_M hS
  have cx := jl_S_x hS
  obtain ⟨v, w, h1, h2, e1, e2, M1, hS2⟩ := jl_leafL (as := [.ref x, .int (xs (i + 1)), .int (xs (i + 2))]) (rs := [.ref m, .int (xs (i + 1)), .int (xs (i + 2))]) hS (jc_s132 6) rfl (fun ρ hx => ⟨Or.inr ⟨x, rfl, hx⟩, jk_V_top, jk_V_top, True.intro⟩) jl_r53
  refine ⟨h2, ?_, hS2⟩
  have cm : jv_cl h1 m = some 0 := M1.2
  have al0 : ∀ j, j < 11 → jv_al h b .int (nI (i + j)) = some (.int (xs (i + j))) := fun j hj => M0.1 (i + j) (by omega) (by omega)
  have al1 : ∀ j, j < 11 → jv_al h1 b .int (nI (i + j)) = some (.int (xs (i + j))) := fun j hj => M1.1 (i + j) (by omega) (by omega)
  simp (disch := first | omega | exact id rfl | exact jd_i | exact jd_r | exact jd_n | decide | (simp (disch := first | omega | decide) only [cx, cm, e1, e2, al0, al1, Option.isSome_some])) only [cx, cm, e1, e2, al0, al1, Option.isSome_some, Option.getD_some, Option.toList_some, Option.toList_none, List.cons_append, List.nil_append, E163_707, E163_708, E163_709, E163_710, E163_711, E163_712, E163_713, E163_714, E163_715, E163_716, E163_717, E163_718, E163_721, E163_722, E163_723, E163_724, E163_725, E163_726, E163_727, E163_728, E163_729, E163_730, E163_731, E163_732, E163_733, E163_736, E163_737, nI_add]
theorem jl_k_word (hi : i + 11 ≤ N) (hN : N ≤ 5632) (hS : jl_S b N xs x m b0 s0 h) : ∃ h2, jv_ev (jv_run 8) 163 740 [some (.ref b), some (.ref x), some (.ref m), some (.int (nI i))] [] h = jv_ev (jv_run 8) 163 878 [some (.ref b), some (.ref x), some (.ref m), some (.int (nI i))] [] h2 ∧ jl_S b N xs x m b0 s0 h2 := by
  have M0 := jl_S_M hS
  have cx := jl_S_x hS
  obtain ⟨v, w, h1, h2, e1, e2, M1, hS2⟩ := jl_leafL (as := [.ref x, .int (xs (i + 1)), .int (xs (i + 2))]) (rs := [.ref m, .int (xs (i + 1)), .int (xs (i + 2))]) hS (jc_s133 5) rfl (fun ρ hx => ⟨Or.inr ⟨x, rfl, hx⟩, jk_V_top, jk_V_top, True.intro⟩) jl_r54
  refine ⟨h2, ?_, hS2⟩
  have cm : jv_cl h1 m = some 0 := M1.2
  have al0 : ∀ j, j < 11 → jv_al h b .int (nI (i + j)) = some (.int (xs (i + j))) := fun j hj => M0.1 (i + j) (by omega) (by omega)
  have al1 : ∀ j, j < 11 → jv_al h1 b .int (nI (i + j)) = some (.int (xs (i + j))) := fun j hj => M1.1 (i + j) (by omega) (by omega)
  simp (disch := first | omega | exact id rfl | exact jd_i | exact jd_r | exact jd_n | decide | (simp (disch := first | omega | decide) only [cx, cm, e1, e2, al0, al1, Option.isSome_some])) only [cx, cm, e1, e2, al0, al1, Option.isSome_some, Option.getD_some, Option.toList_some, Option.toList_none, List.cons_append, List.nil_append, E163_740, E163_741, E163_742, E163_743, E163_744, E163_745, E163_746, E163_747, E163_748, E163_749, E163_750, E163_751, E163_754, E163_755, E163_756, E163_757, E163_758, E163_759, E163_760, E163_761, E163_762, E163_763, E163_764, E163_765, E163_766, E163_769, E163_770, nI_add]
theorem jl_k_clock (hi : i + 11 ≤ N) (hN : N ≤ 5632) (hS : jl_S b N xs x m b0 s0 h) : ∃ h2, jv_ev (jv_run 8) 163 773 [some (.ref b), some (.ref x), some (.ref m), some (.int (nI i))] [] h = jv_ev (jv_run 8) 163 878 [some (.ref b), some (.ref x), some (.ref m), some (.int (nI i))] [] h2 ∧ jl_S b N xs x m b0 s0 h2 := by
  have M0 := jl_S_M hS
  have cx := jl_S_x hS
  obtain ⟨v, w, h1, h2, e1, e2, M1, hS2⟩ := jl_leafI (as := [.ref x]) (rs := [.ref m]) hS (jc_s134 7) rfl (fun ρ hx => ⟨Or.inr ⟨x, rfl, hx⟩, True.intro⟩) jl_r55
  refine ⟨h2, ?_, hS2⟩
  have cm : jv_cl h1 m = some 0 := M1.2
  simp (disch := first | omega | exact id rfl | exact jd_i | exact jd_r | exact jd_n | decide | (simp (disch := first | omega | decide) only [cx, cm, e1, e2, Option.isSome_some])) only [cx, cm, e1, e2, Option.isSome_some, Option.getD_some, Option.toList_some, Option.toList_none, List.cons_append, List.nil_append, E163_773, E163_774, E163_777, E163_778, E163_779, E163_782, E163_783, nI_add]
theorem jl_k_told (hi : i + 11 ≤ N) (hN : N ≤ 5632) (hS : jl_S b N xs x m b0 s0 h) : ∃ h2, jv_ev (jv_run 8) 163 786 [some (.ref b), some (.ref x), some (.ref m), some (.int (nI i))] [] h = jv_ev (jv_run 8) 163 878 [some (.ref b), some (.ref x), some (.ref m), some (.int (nI i))] [] h2 ∧ jl_S b N xs x m b0 s0 h2 := by
  have M0 := jl_S_M hS
  have cx := jl_S_x hS
  obtain ⟨v, w, h1, h2, e1, e2, M1, hS2⟩ := jl_leafI (as := [.ref x, .int (xs (i + 1))]) (rs := [.ref m, .int (xs (i + 1))]) hS (jc_s135 6) rfl (fun ρ hx => ⟨Or.inr ⟨x, rfl, hx⟩, jk_V_top, True.intro⟩) jl_r56
  refine ⟨h2, ?_, hS2⟩
  have cm : jv_cl h1 m = some 0 := M1.2
  have al0 : ∀ j, j < 11 → jv_al h b .int (nI (i + j)) = some (.int (xs (i + j))) := fun j hj => M0.1 (i + j) (by omega) (by omega)
  have al1 : ∀ j, j < 11 → jv_al h1 b .int (nI (i + j)) = some (.int (xs (i + j))) := fun j hj => M1.1 (i + j) (by omega) (by omega)
  simp (disch := first | omega | exact id rfl | exact jd_i | exact jd_r | exact jd_n | decide | (simp (disch := first | omega | decide) only [cx, cm, e1, e2, al0, al1, Option.isSome_some])) only [cx, cm, e1, e2, al0, al1, Option.isSome_some, Option.getD_some, Option.toList_some, Option.toList_none, List.cons_append, List.nil_append, E163_786, E163_787, E163_788, E163_789, E163_790, E163_791, E163_792, E163_795, E163_796, E163_797, E163_798, E163_799, E163_800, E163_801, E163_802, E163_805, E163_806, nI_add]
theorem jl_k_frame (hi : i + 11 ≤ N) (hN : N ≤ 5632) (hS : jl_S b N xs x m b0 s0 h) : ∃ h2, jv_ev (jv_run 8) 163 809 [some (.ref b), some (.ref x), some (.ref m), some (.int (nI i))] [] h = jv_ev (jv_run 8) 163 878 [some (.ref b), some (.ref x), some (.ref m), some (.int (nI i))] [] h2 ∧ jl_S b N xs x m b0 s0 h2 := by
  have M0 := jl_S_M hS
  have cx := jl_S_x hS
  obtain ⟨v, w, h1, h2, e1, e2, M1, hS2⟩ := jl_leafI (as := [.ref x, .int (xs (i + 1)), .int (xs (i + 2))]) (rs := [.ref m, .int (xs (i + 1)), .int (xs (i + 2))]) hS (jc_s136 6) rfl (fun ρ hx => ⟨Or.inr ⟨x, rfl, hx⟩, jk_V_top, jk_V_top, True.intro⟩) jl_r57
  refine ⟨h2, ?_, hS2⟩
  have cm : jv_cl h1 m = some 0 := M1.2
  have al0 : ∀ j, j < 11 → jv_al h b .int (nI (i + j)) = some (.int (xs (i + j))) := fun j hj => M0.1 (i + j) (by omega) (by omega)
  have al1 : ∀ j, j < 11 → jv_al h1 b .int (nI (i + j)) = some (.int (xs (i + j))) := fun j hj => M1.1 (i + j) (by omega) (by omega)
  simp (disch := first | omega | exact id rfl | exact jd_i | exact jd_r | exact jd_n | decide | (simp (disch := first | omega | decide) only [cx, cm, e1, e2, al0, al1, Option.isSome_some])) only [cx, cm, e1, e2, al0, al1, Option.isSome_some, Option.getD_some, Option.toList_some, Option.toList_none, List.cons_append, List.nil_append, E163_809, E163_810, E163_811, E163_812, E163_813, E163_814, E163_815, E163_816, E163_817, E163_818, E163_819, E163_820, E163_823, E163_824, E163_825, E163_826, E163_827, E163_828, E163_829, E163_830, E163_831, E163_832, E163_833, E163_834, E163_835, E163_838, E163_839, nI_add]
theorem jl_k_sector (hi : i + 11 ≤ N) (hN : N ≤ 5632) (hS : jl_S b N xs x m b0 s0 h) : ∃ h2, jv_ev (jv_run 8) 163 842 [some (.ref b), some (.ref x), some (.ref m), some (.int (nI i))] [] h = jv_ev (jv_run 8) 163 878 [some (.ref b), some (.ref x), some (.ref m), some (.int (nI i))] [] h2 ∧ jl_S b N xs x m b0 s0 h2 := by
  have M0 := jl_S_M hS
  have cx := jl_S_x hS
  obtain ⟨v, w, h1, h2, e1, e2, M1, hS2⟩ := jl_leafI (as := [.ref x, .int (xs (i + 1))]) (rs := [.ref m, .int (xs (i + 1))]) hS (jc_s137 6) rfl (fun ρ hx => ⟨Or.inr ⟨x, rfl, hx⟩, jk_V_top, True.intro⟩) jl_r58
  refine ⟨h2, ?_, hS2⟩
  have cm : jv_cl h1 m = some 0 := M1.2
  have al0 : ∀ j, j < 11 → jv_al h b .int (nI (i + j)) = some (.int (xs (i + j))) := fun j hj => M0.1 (i + j) (by omega) (by omega)
  have al1 : ∀ j, j < 11 → jv_al h1 b .int (nI (i + j)) = some (.int (xs (i + j))) := fun j hj => M1.1 (i + j) (by omega) (by omega)
  simp (disch := first | omega | exact id rfl | exact jd_i | exact jd_r | exact jd_n | decide | (simp (disch := first | omega | decide) only [cx, cm, e1, e2, al0, al1, Option.isSome_some])) only [cx, cm, e1, e2, al0, al1, Option.isSome_some, Option.getD_some, Option.toList_some, Option.toList_none, List.cons_append, List.nil_append, E163_842, E163_843, E163_844, E163_845, E163_846, E163_847, E163_848, E163_851, E163_852, E163_853, E163_854, E163_855, E163_856, E163_857, E163_858, E163_861, E163_862, nI_add]
theorem jl_k_digest (hi : i + 11 ≤ N) (hN : N ≤ 5632) (hS : jl_S b N xs x m b0 s0 h) : ∃ h2, jv_ev (jv_run 8) 163 865 [some (.ref b), some (.ref x), some (.ref m), some (.int (nI i))] [] h = jv_ev (jv_run 8) 163 878 [some (.ref b), some (.ref x), some (.ref m), some (.int (nI i))] [] h2 ∧ jl_S b N xs x m b0 s0 h2 := by
  have M0 := jl_S_M hS
  have cx := jl_S_x hS
  obtain ⟨v, w, h1, h2, e1, e2, M1, hS2⟩ := jl_leafL (as := [.ref x]) (rs := [.ref m]) hS (jc_s138 5) rfl (fun ρ hx => ⟨Or.inr ⟨x, rfl, hx⟩, True.intro⟩) jl_r59
  refine ⟨h2, ?_, hS2⟩
  have cm : jv_cl h1 m = some 0 := M1.2
  simp (disch := first | omega | exact id rfl | exact jd_i | exact jd_r | exact jd_n | decide | (simp (disch := first | omega | decide) only [cx, cm, e1, e2, Option.isSome_some])) only [cx, cm, e1, e2, Option.isSome_some, Option.getD_some, Option.toList_some, Option.toList_none, List.cons_append, List.nil_append, E163_865, E163_866, E163_869, E163_870, E163_871, E163_874, E163_875, nI_add]
end JW3
