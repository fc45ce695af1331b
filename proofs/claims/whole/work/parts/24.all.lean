/-! ===== THE TABLES OF THE PROGRAM ARE GOOD (made by wip/gen/gen19.py) ===== -/
def tC_0 : List (List (List CR)) := [cd_0, cd_1, cd_2, cd_3, cd_4, cd_5, cd_6, cd_7, cd_8, cd_9, cd_10, cd_11, cd_12, cd_13, cd_14, cd_15, cd_16, cd_17, cd_18, cd_19, cd_20, cd_21, cd_22, cd_23, cd_24, cd_25, cd_26, cd_27, cd_28, cd_29, cd_30, cd_31]
def tC_1 : List (List (List CR)) := [cd_32, cd_33, cd_34, cd_35, cd_36, cd_37, cd_38, cd_39, cd_40, cd_41, cd_42, cd_43, cd_44, cd_45, cd_46, cd_47, cd_48, cd_49, cd_50, cd_51, cd_52, cd_53, cd_54, cd_55, cd_56, cd_57, cd_58, cd_59, cd_60, cd_61, cd_62, cd_63]
def tC_2 : List (List (List CR)) := [cd_64, cd_65, cd_66, cd_67, cd_68, cd_69, cd_70, cd_71, cd_72, cd_73, cd_74, cd_75, cd_76, cd_77, cd_78, cd_79, cd_80, cd_81, cd_82, cd_83, cd_84, cd_85, cd_86, cd_87, cd_88, cd_89, cd_90, cd_91, cd_92, cd_93, cd_94, cd_95]
def tC_3 : List (List (List CR)) := [cd_96, cd_97, cd_98, cd_99, cd_100, cd_101, cd_102, cd_103, cd_104, cd_105, cd_106, cd_107, cd_108, cd_109, cd_110, cd_111, cd_112, cd_113, cd_114, cd_115, cd_116, cd_117, cd_118, cd_119, cd_120, cd_121, cd_122, cd_123, cd_124, cd_125, cd_126, cd_127]
def tC_4 : List (List (List CR)) := [cd_128, cd_129, cd_130, cd_131, cd_132, cd_133, cd_134, cd_135, cd_136, cd_137, cd_138, cd_139, cd_140, cd_141, cd_142, cd_143, cd_144, cd_145, cd_146, cd_147, cd_148, cd_149, cd_150, cd_151, cd_152, cd_153, cd_154, cd_155, cd_156, cd_157, cd_158, cd_159]
def tC_5 : List (List (List CR)) := [cd_160, cd_161, cd_162, cd_163, cd_164, cd_165, cd_166, cd_167, cd_168, cd_169, cd_170, cd_171, cd_172, cd_173, cd_174, cd_175, cd_176, cd_177, cd_178, cd_179, cd_180, cd_181, cd_182, cd_183, cd_184, cd_185, cd_186, cd_187, cd_188, cd_189, cd_190, cd_191]
def tC_6 : List (List (List CR)) := [cd_192, cd_193, cd_194, cd_195, cd_196, cd_197, cd_198, cd_199, cd_200, cd_201, cd_202, cd_203, cd_204, cd_205, cd_206, cd_207, cd_208, cd_209, cd_210, cd_211, cd_212, cd_213, cd_214, cd_215, cd_216, cd_217, cd_218, cd_219, cd_220, cd_221, cd_222, cd_223]
def tC_7 : List (List (List CR)) := [cd_224, cd_225, cd_226, cd_227, cd_228, cd_229, cd_230, cd_231, cd_232, cd_233, cd_234, cd_235, cd_236, cd_237, cd_238, cd_239, cd_240, cd_241, cd_242, cd_243, cd_244, cd_245, cd_246, cd_247, cd_248, cd_249, cd_250, cd_251, cd_252, cd_253, cd_254, cd_255]
def tC_8 : List (List (List CR)) := [cd_256, cd_257, cd_258, cd_259, cd_260, cd_261, cd_262, cd_263, cd_264, cd_265, cd_266, cd_267, cd_268, cd_269, cd_270, cd_271, cd_272, cd_273, cd_274, cd_275, cd_276, cd_277, cd_278, cd_279, cd_280, cd_281, cd_282, cd_283, cd_284, cd_285, cd_286, cd_287]
def tC_9 : List (List (List CR)) := [cd_288, cd_289, cd_290, cd_291, cd_292, cd_293, cd_294, cd_295, cd_296, cd_297, cd_298, cd_299, cd_300, cd_301, cd_302, cd_303, cd_304, cd_305, cd_306, cd_307, cd_308, cd_309, cd_310, cd_311, cd_312, cd_313, cd_314, cd_315, cd_316, cd_317, cd_318, cd_319]
def tC_10 : List (List (List CR)) := [cd_320, cd_321, cd_322, cd_323, cd_324, cd_325, cd_326, cd_327, cd_328, cd_329, cd_330, cd_331, cd_332, cd_333, cd_334, cd_335, cd_336, cd_337, cd_338, cd_339, cd_340, cd_341, cd_342, cd_343, cd_344, cd_345, cd_346, cd_347, cd_348, cd_349, cd_350, cd_351]
def tC_11 : List (List (List CR)) := [cd_352, cd_353, cd_354, cd_355, cd_356, cd_357, cd_358, cd_359, cd_360, cd_361, cd_362, cd_363, cd_364, cd_365, cd_366, cd_367, cd_368, cd_369, cd_370, cd_371, cd_372, cd_373, cd_374, cd_375, cd_376, cd_377, cd_378, cd_379, cd_380, cd_381, cd_382, cd_383]
def tC_12 : List (List (List CR)) := [cd_384, cd_385, cd_386, cd_387, cd_388, cd_389, cd_390, cd_391, cd_392, cd_393, cd_394, cd_395, cd_396, cd_397, cd_398, cd_399, cd_400, cd_401, cd_402]
def tCs : List (List (List (List CR))) := [tC_0, tC_1, tC_2, tC_3, tC_4, tC_5, tC_6, tC_7, tC_8, tC_9, tC_10, tC_11, tC_12]
noncomputable def cG (y : Nat) : List (List CR) := nthD (nthD tCs (y / 32) []) (y % 32) []
/-- THE PROGRAM'S CODE -/
noncomputable def cdF (y pc : Nat) : CI := lkC (nthD (cG y) (pc / 32) []) pc
theorem lkC_or {l : List CR} {pc : Nat} : lkC l pc = (.nop, (0, 0, 0), [], 0, []) ∨ ∃ e ∈ l, e.1 = pc ∧ e.2.1 = lkC l pc := by
  induction l with
  | nil => exact Or.inl rfl
  | cons a t ih =>
    have e : lkC (a :: t) pc = bif Nat.beq a.1 pc then a.2.1 else lkC t pc := rfl
    cases hb : Nat.beq a.1 pc with
    | true =>
      rw [hb] at e
      exact Or.inr ⟨a, List.mem_cons_self, Nat.eq_of_beq_eq_true hb, e.symm⟩
    | false =>
      rw [hb] at e
      have e : lkC (a :: t) pc = lkC t pc := e
      rw [e]
      rcases ih with h | ⟨b, h1, h2, h3⟩
      · exact Or.inl h
      · exact Or.inr ⟨b, List.mem_cons_of_mem _ h1, h2, h3⟩
theorem wt_all {ws : List Cond} {q : List (Nat × Nat)} (h : ws.map some = q.map wt) : ∀ w ∈ ws, w ∈ lw_tbl := by
  intro w hw
  have h1 : some w ∈ q.map wt := h ▸ List.mem_map.mpr ⟨w, hw, rfl⟩
  obtain ⟨a, -, h2⟩ := List.mem_map.mp h1
  exact wt_in h2
theorem okT_of {y : Nat} (hp : plainFor (mY y) = true) (h : cP y (cG y)) : okT mY mB mL mT mK exS exZ cdF y := by
  obtain ⟨h1, h2, h3⟩ := h
  refine ⟨hp, fun pc => ?_⟩
  rcases lkC_or (l := nthD (cG y) (pc / 32) []) (pc := pc) with e | ⟨a, e1, e2, e3⟩
  · refine Or.inl ?_
    show (lkC (nthD (cG y) (pc / 32) []) pc).1 = _
    rw [e]
  · refine Or.inr ?_
    rcases nthD_mem (d := []) (l := cG y) (n := pc / 32) with g | g
    · rw [g] at e1; cases e1
    · have g1 := List.all_eq_true.mp (List.all_eq_true.mp h1 _ g) _ e1
      have g3 := List.all_eq_true.mp (List.all_eq_true.mp h3 _ g) _ e1
      have g2 := List.map_inj_left.mp (List.map_inj_left.mp h2 _ g) _ e1
      rw [e2] at g1
      show okB wQ wQ0 mY mK exS exZ (mY y).cls (mB y) (mL y) (decide ((mY y).name = "<init>")) (mT y) pc (lkC (nthD (cG y) (pc / 32) []) pc) = true
      rw [← e3]
      refine okB_of g1 (fun w hw => wQ_of ⟨wt_all g2 w (List.mem_append_left _ hw), List.all_eq_true.mp g3 w hw⟩) (fun w hw => wQ0_of (wt_all g2 w (List.mem_append_right _ hw)))
theorem tMs_all {P : MR → Prop} (h : ∀ l ∈ tMs, ∀ r ∈ l, P r) (y : Nat) : (mK y).1 = 3 ∨ P (mG y) := by
  rcases nthD_mem (d := []) (l := tMs) (n := y / 32) with e | e
  · refine Or.inl ?_
    unfold mK mG
    rw [e]
    rfl
  · rcases nthD_mem (d := ((⟨"", "", ""⟩, ⟨#[]⟩, 0, none, (3, 0, 0), []) : MR)) (l := nthD tMs (y / 32) []) (n := y % 32) with g | g
    · refine Or.inl ?_
      unfold mK mG
      rw [g]
    · exact Or.inr (h _ e _ g)
theorem tMs_a : ∀ l ∈ tMs, l.all okR = true := by
  intro l hl
  simp only [tMs, List.mem_cons, List.not_mem_nil, or_false] at hl
  rcases hl with rfl | rfl | rfl | rfl | rfl | rfl | rfl | rfl | rfl | rfl | rfl | rfl | rfl
  · exact tM_a0
  · exact tM_a1
  · exact tM_a2
  · exact tM_a3
  · exact tM_a4
  · exact tM_a5
  · exact tM_a6
  · exact tM_a7
  · exact tM_a8
  · exact tM_a9
  · exact tM_a10
  · exact tM_a11
  · exact tM_a12
theorem tMs_c : ∀ l ∈ tMs, l.all clR = true := by
  intro l hl
  simp only [tMs, List.mem_cons, List.not_mem_nil, or_false] at hl
  rcases hl with rfl | rfl | rfl | rfl | rfl | rfl | rfl | rfl | rfl | rfl | rfl | rfl | rfl
  · exact tM_c0
  · exact tM_c1
  · exact tM_c2
  · exact tM_c3
  · exact tM_c4
  · exact tM_c5
  · exact tM_c6
  · exact tM_c7
  · exact tM_c8
  · exact tM_c9
  · exact tM_c10
  · exact tM_c11
  · exact tM_c12
theorem tMs_d : ∀ l ∈ tMs, l.all (fun r => (ndR r).all goodWord) = true := by
  intro l hl
  simp only [tMs, List.mem_cons, List.not_mem_nil, or_false] at hl
  rcases hl with rfl | rfl | rfl | rfl | rfl | rfl | rfl | rfl | rfl | rfl | rfl | rfl | rfl
  · exact tM_d0
  · exact tM_d1
  · exact tM_d2
  · exact tM_d3
  · exact tM_d4
  · exact tM_d5
  · exact tM_d6
  · exact tM_d7
  · exact tM_d8
  · exact tM_d9
  · exact tM_d10
  · exact tM_d11
  · exact tM_d12
theorem tMs_b : ∀ l ∈ tMs, l.map (fun r => (ndR r).map some) = l.map (fun r => r.2.2.2.2.2.map wt) := by
  intro l hl
  simp only [tMs, List.mem_cons, List.not_mem_nil, or_false] at hl
  rcases hl with rfl | rfl | rfl | rfl | rfl | rfl | rfl | rfl | rfl | rfl | rfl | rfl | rfl
  · exact tM_b0
  · exact tM_b1
  · exact tM_b2
  · exact tM_b3
  · exact tM_b4
  · exact tM_b5
  · exact tM_b6
  · exact tM_b7
  · exact tM_b8
  · exact tM_b9
  · exact tM_b10
  · exact tM_b11
  · exact tM_b12
theorem rowOk (y : Nat) : (mK y).1 = 3 ∨ (okR (mG y) = true ∧ clR (mG y) = true ∧ ∀ w ∈ ndR (mG y), w ∈ lw_tbl ∧ goodWord w = true) :=
  tMs_all (P := fun r => okR r = true ∧ clR r = true ∧ ∀ w ∈ ndR r, w ∈ lw_tbl ∧ goodWord w = true) (fun l hl r hr => ⟨List.all_eq_true.mp (tMs_a l hl) r hr, List.all_eq_true.mp (tMs_c l hl) r hr, fun w hw => ⟨wt_all (List.map_inj_left.mp (tMs_b l hl) r hr) w hw, List.all_eq_true.mp (List.all_eq_true.mp (tMs_d l hl) r hr) w hw⟩⟩) y
theorem rowOkY (y : Nat) (hy : (mK y).1 ≤ 2) : okY mY mB mL mT mK y ∧ plainFor (mY y) = true := by
  rcases rowOk y with h | ⟨h1, h2, h3⟩
  · omega
  · unfold okY okM mY mB mL mT
    unfold mK at hy ⊢
    generalize mG y = r at *
    obtain ⟨n, b, ml, rt, ⟨k, t, na⟩, ws⟩ := r
    simp only [okR, clR, ndR, Bool.and_eq_true, decide_eq_true_eq] at h1 h2 h3 hy ⊢
    obtain ⟨⟨⟨a1, a2⟩, a3⟩, a4⟩ := h1
    refine ⟨⟨⟨h3 _ (List.mem_append_left _ List.mem_cons_self), h3 _ (List.mem_append_left _ (List.mem_cons_of_mem _ List.mem_cons_self)), h2, a1⟩, a2, fun e => ?_, fun e => ?_, fun e => ?_⟩, a3⟩
    · subst e
      exact h3 _ (List.mem_append_right _ List.mem_cons_self)
    · subst e
      simp only [Bool.and_eq_true, decide_eq_true_eq] at a4
      exact ⟨a4.1, a4.2, h3 _ (List.mem_append_right _ List.mem_cons_self), h3 _ (List.mem_append_right _ (List.mem_cons_of_mem _ List.mem_cons_self))⟩
    · subst e
      simp only [Bool.and_eq_true, decide_eq_true_eq] at a4
      exact ⟨h3 _ (List.mem_append_right _ List.mem_cons_self), a4.1, a4.2⟩
theorem cdP_0 : cP 0 cd_0 := ⟨cda_0, cdb_0, cdg_0⟩
theorem cdP_1 : cP 1 cd_1 := ⟨cda_1, cdb_1, cdg_1⟩
theorem cdP_2 : cP 2 cd_2 := ⟨cda_2, cdb_2, cdg_2⟩
theorem cdP_3 : cP 3 cd_3 := ⟨cda_3, cdb_3, cdg_3⟩
theorem cdP_4 : cP 4 cd_4 := ⟨cda_4, cdb_4, cdg_4⟩
theorem cdP_5 : cP 5 cd_5 := ⟨cda_5, cdb_5, cdg_5⟩
theorem cdP_6 : cP 6 cd_6 := ⟨cda_6, cdb_6, cdg_6⟩
theorem cdP_7 : cP 7 cd_7 := ⟨cda_7, cdb_7, cdg_7⟩
theorem cdP_8 : cP 8 cd_8 := ⟨cda_8, cdb_8, cdg_8⟩
theorem cdP_9 : cP 9 cd_9 := ⟨cda_9, cdb_9, cdg_9⟩
theorem cdP_10 : cP 10 cd_10 := ⟨cda_10, cdb_10, cdg_10⟩
theorem cdP_11 : cP 11 cd_11 := ⟨cda_11, cdb_11, cdg_11⟩
theorem cdP_12 : cP 12 cd_12 := ⟨cda_12, cdb_12, cdg_12⟩
theorem cdP_13 : cP 13 cd_13 := ⟨cda_13, cdb_13, cdg_13⟩
theorem cdP_14 : cP 14 cd_14 := ⟨cda_14, cdb_14, cdg_14⟩
theorem cdP_15 : cP 15 cd_15 := ⟨cda_15, cdb_15, cdg_15⟩
theorem cdP_16 : cP 16 cd_16 := ⟨cda_16, cdb_16, cdg_16⟩
theorem cdP_17 : cP 17 cd_17 := ⟨cda_17, cdb_17, cdg_17⟩
theorem cdP_18 : cP 18 cd_18 := ⟨cda_18, cdb_18, cdg_18⟩
theorem cdP_19 : cP 19 cd_19 := ⟨cda_19, cdb_19, cdg_19⟩
theorem cdP_20 : cP 20 cd_20 := ⟨cda_20, cdb_20, cdg_20⟩
theorem cdP_21 : cP 21 cd_21 := ⟨cda_21, cdb_21, cdg_21⟩
theorem cdP_22 : cP 22 cd_22 := ⟨cda_22, cdb_22, cdg_22⟩
theorem cdP_23 : cP 23 cd_23 := ⟨cda_23, cdb_23, cdg_23⟩
theorem cdP_24 : cP 24 cd_24 := ⟨cda_24, cdb_24, cdg_24⟩
theorem cdP_25 : cP 25 cd_25 := ⟨cda_25, cdb_25, cdg_25⟩
theorem cdP_26 : cP 26 cd_26 := ⟨cda_26, cdb_26, cdg_26⟩
theorem cdP_27 : cP 27 cd_27 := ⟨cda_27, cdb_27, cdg_27⟩
theorem cdP_28 : cP 28 cd_28 := ⟨cda_28, cdb_28, cdg_28⟩
theorem cdP_29 : cP 29 cd_29 := ⟨cda_29, cdb_29, cdg_29⟩
theorem cdP_30 : cP 30 cd_30 := ⟨cda_30, cdb_30, cdg_30⟩
theorem cdP_31 : cP 31 cd_31 := ⟨cda_31, cdb_31, cdg_31⟩
theorem cdP_32 : cP 32 cd_32 := ⟨cda_32, cdb_32, cdg_32⟩
theorem cdP_33 : cP 33 cd_33 := ⟨cda_33, cdb_33, cdg_33⟩
theorem cdP_34 : cP 34 cd_34 := ⟨cda_34, cdb_34, cdg_34⟩
theorem cdP_35 : cP 35 cd_35 := ⟨cda_35, cdb_35, cdg_35⟩
theorem cdP_36 : cP 36 cd_36 := ⟨cda_36, cdb_36, cdg_36⟩
theorem cdP_37 : cP 37 cd_37 := ⟨cda_37, cdb_37, cdg_37⟩
theorem cdP_38 : cP 38 cd_38 := ⟨cda_38, cdb_38, cdg_38⟩
theorem cdP_39 : cP 39 cd_39 := ⟨cda_39, cdb_39, cdg_39⟩
theorem cdP_40 : cP 40 cd_40 := ⟨cda_40, cdb_40, cdg_40⟩
theorem cdP_41 : cP 41 cd_41 := ⟨cda_41, cdb_41, cdg_41⟩
theorem cdP_42 : cP 42 cd_42 := ⟨cda_42, cdb_42, cdg_42⟩
theorem cdP_43 : cP 43 cd_43 := ⟨cda_43, cdb_43, cdg_43⟩
theorem cdP_44 : cP 44 cd_44 := ⟨cda_44, cdb_44, cdg_44⟩
theorem cdP_45 : cP 45 cd_45 := ⟨cda_45, cdb_45, cdg_45⟩
theorem cdP_46 : cP 46 cd_46 := ⟨cda_46, cdb_46, cdg_46⟩
theorem cdP_47 : cP 47 cd_47 := ⟨cda_47, cdb_47, cdg_47⟩
theorem cdP_48 : cP 48 cd_48 := ⟨cda_48, cdb_48, cdg_48⟩
theorem cdP_49 : cP 49 cd_49 := ⟨cda_49, cdb_49, cdg_49⟩
theorem cdP_50 : cP 50 cd_50 := ⟨cda_50, cdb_50, cdg_50⟩
theorem cdP_51 : cP 51 cd_51 := ⟨cda_51, cdb_51, cdg_51⟩
theorem cdP_52 : cP 52 cd_52 := ⟨cda_52, cdb_52, cdg_52⟩
theorem cdP_53 : cP 53 cd_53 := ⟨cda_53, cdb_53, cdg_53⟩
theorem cdP_54 : cP 54 cd_54 := ⟨cda_54, cdb_54, cdg_54⟩
theorem cdP_55 : cP 55 cd_55 := ⟨cda_55, cdb_55, cdg_55⟩
theorem cdP_56 : cP 56 cd_56 := ⟨cda_56, cdb_56, cdg_56⟩
theorem cdP_57 : cP 57 cd_57 := ⟨cda_57, cdb_57, cdg_57⟩
theorem cdP_58 : cP 58 cd_58 := ⟨cda_58, cdb_58, cdg_58⟩
theorem cdP_59 : cP 59 cd_59 := ⟨cda_59, cdb_59, cdg_59⟩
theorem cdP_60 : cP 60 cd_60 := ⟨cda_60, cdb_60, cdg_60⟩
theorem cdP_61 : cP 61 cd_61 := ⟨cda_61, cdb_61, cdg_61⟩
theorem cdP_62 : cP 62 cd_62 := ⟨cda_62, cdb_62, cdg_62⟩
theorem cdP_63 : cP 63 cd_63 := ⟨cda_63, cdb_63, cdg_63⟩
theorem cdP_64 : cP 64 cd_64 := ⟨cda_64, cdb_64, cdg_64⟩
theorem cdP_65 : cP 65 cd_65 := ⟨cda_65, cdb_65, cdg_65⟩
theorem cdP_66 : cP 66 cd_66 := ⟨cda_66, cdb_66, cdg_66⟩
theorem cdP_67 : cP 67 cd_67 := ⟨cda_67, cdb_67, cdg_67⟩
theorem cdP_68 : cP 68 cd_68 := ⟨cda_68, cdb_68, cdg_68⟩
theorem cdP_69 : cP 69 cd_69 := ⟨cda_69, cdb_69, cdg_69⟩
theorem cdP_70 : cP 70 cd_70 := ⟨cda_70, cdb_70, cdg_70⟩
theorem cdP_71 : cP 71 cd_71 := ⟨cda_71, cdb_71, cdg_71⟩
theorem cdP_72 : cP 72 cd_72 := ⟨cda_72, cdb_72, cdg_72⟩
theorem cdP_73 : cP 73 cd_73 := ⟨cda_73, cdb_73, cdg_73⟩
theorem cdP_74 : cP 74 cd_74 := ⟨cda_74, cdb_74, cdg_74⟩
theorem cdP_75 : cP 75 cd_75 := ⟨cda_75, cdb_75, cdg_75⟩
theorem cdP_76 : cP 76 cd_76 := ⟨cda_76, cdb_76, cdg_76⟩
theorem cdP_77 : cP 77 cd_77 := ⟨cda_77, cdb_77, cdg_77⟩
theorem cdP_78 : cP 78 cd_78 := ⟨cda_78, cdb_78, cdg_78⟩
theorem cdP_79 : cP 79 cd_79 := ⟨cda_79, cdb_79, cdg_79⟩
theorem cdP_80 : cP 80 cd_80 := ⟨cda_80, cdb_80, cdg_80⟩
theorem cdP_81 : cP 81 cd_81 := ⟨cda_81, cdb_81, cdg_81⟩
theorem cdP_82 : cP 82 cd_82 := ⟨cda_82, cdb_82, cdg_82⟩
theorem cdP_83 : cP 83 cd_83 := ⟨cda_83, cdb_83, cdg_83⟩
theorem cdP_84 : cP 84 cd_84 := ⟨cda_84, cdb_84, cdg_84⟩
theorem cdP_85 : cP 85 cd_85 := ⟨cda_85, cdb_85, cdg_85⟩
theorem cdP_86 : cP 86 cd_86 := ⟨cda_86, cdb_86, cdg_86⟩
theorem cdP_87 : cP 87 cd_87 := ⟨cda_87, cdb_87, cdg_87⟩
theorem cdP_88 : cP 88 cd_88 := ⟨cda_88, cdb_88, cdg_88⟩
theorem cdP_89 : cP 89 cd_89 := ⟨cda_89, cdb_89, cdg_89⟩
theorem cdP_90 : cP 90 cd_90 := ⟨cda_90, cdb_90, cdg_90⟩
theorem cdP_91 : cP 91 cd_91 := ⟨cda_91, cdb_91, cdg_91⟩
theorem cdP_92 : cP 92 cd_92 := ⟨cda_92, cdb_92, cdg_92⟩
theorem cdP_93 : cP 93 cd_93 := ⟨cda_93, cdb_93, cdg_93⟩
theorem cdP_94 : cP 94 cd_94 := ⟨cda_94, cdb_94, cdg_94⟩
theorem cdP_95 : cP 95 cd_95 := ⟨cda_95, cdb_95, cdg_95⟩
theorem cdP_96 : cP 96 cd_96 := ⟨cda_96, cdb_96, cdg_96⟩
theorem cdP_97 : cP 97 cd_97 := ⟨cda_97, cdb_97, cdg_97⟩
theorem cdP_98 : cP 98 cd_98 := ⟨cda_98, cdb_98, cdg_98⟩
theorem cdP_99 : cP 99 cd_99 := ⟨cda_99, cdb_99, cdg_99⟩
theorem cdP_100 : cP 100 cd_100 := ⟨cda_100, cdb_100, cdg_100⟩
theorem cdP_101 : cP 101 cd_101 := ⟨cda_101, cdb_101, cdg_101⟩
theorem cdP_102 : cP 102 cd_102 := ⟨cda_102, cdb_102, cdg_102⟩
theorem cdP_103 : cP 103 cd_103 := ⟨cda_103, cdb_103, cdg_103⟩
theorem cdP_104 : cP 104 cd_104 := ⟨cda_104, cdb_104, cdg_104⟩
theorem cdP_105 : cP 105 cd_105 := ⟨cda_105, cdb_105, cdg_105⟩
theorem cdP_106 : cP 106 cd_106 := ⟨cda_106, cdb_106, cdg_106⟩
theorem cdP_107 : cP 107 cd_107 := ⟨cda_107, cdb_107, cdg_107⟩
theorem cdP_108 : cP 108 cd_108 := ⟨cda_108, cdb_108, cdg_108⟩
theorem cdP_109 : cP 109 cd_109 := ⟨cda_109, cdb_109, cdg_109⟩
theorem cdP_110 : cP 110 cd_110 := ⟨cda_110, cdb_110, cdg_110⟩
theorem cdP_111 : cP 111 cd_111 := ⟨cda_111, cdb_111, cdg_111⟩
theorem cdP_112 : cP 112 cd_112 := ⟨cda_112, cdb_112, cdg_112⟩
theorem cdP_113 : cP 113 cd_113 := ⟨cda_113, cdb_113, cdg_113⟩
theorem cdP_114 : cP 114 cd_114 := ⟨cda_114, cdb_114, cdg_114⟩
theorem cdP_115 : cP 115 cd_115 := ⟨cda_115, cdb_115, cdg_115⟩
theorem cdP_116 : cP 116 cd_116 := ⟨cda_116, cdb_116, cdg_116⟩
theorem cdP_117 : cP 117 cd_117 := ⟨cda_117, cdb_117, cdg_117⟩
theorem cdP_118 : cP 118 cd_118 := ⟨cda_118, cdb_118, cdg_118⟩
theorem cdP_119 : cP 119 cd_119 := ⟨cda_119, cdb_119, cdg_119⟩
theorem cdP_120 : cP 120 cd_120 := ⟨cda_120, cdb_120, cdg_120⟩
theorem cdP_121 : cP 121 cd_121 := ⟨cda_121, cdb_121, cdg_121⟩
theorem cdP_122 : cP 122 cd_122 := ⟨cda_122, cdb_122, cdg_122⟩
theorem cdP_123 : cP 123 cd_123 := ⟨cda_123, cdb_123, cdg_123⟩
theorem cdP_124 : cP 124 cd_124 := ⟨cda_124, cdb_124, cdg_124⟩
theorem cdP_125 : cP 125 cd_125 := ⟨cda_125, cdb_125, cdg_125⟩
theorem cdP_126 : cP 126 cd_126 := ⟨cda_126, cdb_126, cdg_126⟩
theorem cdP_127 : cP 127 cd_127 := ⟨cda_127, cdb_127, cdg_127⟩
theorem cdP_128 : cP 128 cd_128 := ⟨cda_128, cdb_128, cdg_128⟩
theorem cdP_129 : cP 129 cd_129 := ⟨cda_129, cdb_129, cdg_129⟩
theorem cdP_130 : cP 130 cd_130 := ⟨cda_130, cdb_130, cdg_130⟩
theorem cdP_131 : cP 131 cd_131 := ⟨cda_131, cdb_131, cdg_131⟩
theorem cdP_132 : cP 132 cd_132 := ⟨cda_132, cdb_132, cdg_132⟩
theorem cdP_133 : cP 133 cd_133 := ⟨cda_133, cdb_133, cdg_133⟩
theorem cdP_134 : cP 134 cd_134 := ⟨cda_134, cdb_134, cdg_134⟩
theorem cdP_135 : cP 135 cd_135 := ⟨cda_135, cdb_135, cdg_135⟩
theorem cdP_136 : cP 136 cd_136 := ⟨cda_136, cdb_136, cdg_136⟩
theorem cdP_137 : cP 137 cd_137 := ⟨cda_137, cdb_137, cdg_137⟩
theorem cdP_138 : cP 138 cd_138 := ⟨cda_138, cdb_138, cdg_138⟩
theorem cdP_139 : cP 139 cd_139 := ⟨cda_139, cdb_139, cdg_139⟩
theorem cdP_140 : cP 140 cd_140 := ⟨cda_140, cdb_140, cdg_140⟩
theorem cdP_141 : cP 141 cd_141 := ⟨cda_141, cdb_141, cdg_141⟩
theorem cdP_142 : cP 142 cd_142 := ⟨cda_142, cdb_142, cdg_142⟩
theorem cdP_143 : cP 143 cd_143 := ⟨cda_143, cdb_143, cdg_143⟩
theorem cdP_144 : cP 144 cd_144 := ⟨cda_144, cdb_144, cdg_144⟩
theorem cdP_145 : cP 145 cd_145 := ⟨cda_145, cdb_145, cdg_145⟩
theorem cdP_146 : cP 146 cd_146 := ⟨cda_146, cdb_146, cdg_146⟩
theorem cdP_147 : cP 147 cd_147 := ⟨cda_147, cdb_147, cdg_147⟩
theorem cdP_148 : cP 148 cd_148 := ⟨cda_148, cdb_148, cdg_148⟩
theorem cdP_149 : cP 149 cd_149 := ⟨cda_149, cdb_149, cdg_149⟩
theorem cdP_150 : cP 150 cd_150 := ⟨cda_150, cdb_150, cdg_150⟩
theorem cdP_151 : cP 151 cd_151 := ⟨cda_151, cdb_151, cdg_151⟩
theorem cdP_152 : cP 152 cd_152 := ⟨cda_152, cdb_152, cdg_152⟩
theorem cdP_153 : cP 153 cd_153 := ⟨cda_153, cdb_153, cdg_153⟩
theorem cdP_154 : cP 154 cd_154 := ⟨cda_154, cdb_154, cdg_154⟩
theorem cdP_155 : cP 155 cd_155 := ⟨cda_155, cdb_155, cdg_155⟩
theorem cdP_156 : cP 156 cd_156 := ⟨cda_156, cdb_156, cdg_156⟩
theorem cdP_157 : cP 157 cd_157 := ⟨cda_157, cdb_157, cdg_157⟩
theorem cdP_158 : cP 158 cd_158 := ⟨cda_158, cdb_158, cdg_158⟩
theorem cdP_159 : cP 159 cd_159 := ⟨cda_159, cdb_159, cdg_159⟩
theorem cdP_160 : cP 160 cd_160 := ⟨cda_160, cdb_160, cdg_160⟩
theorem cdP_161 : cP 161 cd_161 := ⟨cda_161, cdb_161, cdg_161⟩
theorem cdP_162 : cP 162 cd_162 := ⟨cda_162, cdb_162, cdg_162⟩
theorem cdP_163 : cP 163 cd_163 := ⟨cda_163, cdb_163, cdg_163⟩
theorem cdP_164 : cP 164 cd_164 := ⟨cda_164, cdb_164, cdg_164⟩
theorem cdP_165 : cP 165 cd_165 := ⟨cda_165, cdb_165, cdg_165⟩
theorem cdP_166 : cP 166 cd_166 := ⟨cda_166, cdb_166, cdg_166⟩
theorem cdP_167 : cP 167 cd_167 := ⟨cda_167, cdb_167, cdg_167⟩
theorem cdP_168 : cP 168 cd_168 := ⟨cda_168, cdb_168, cdg_168⟩
theorem cdP_169 : cP 169 cd_169 := ⟨cda_169, cdb_169, cdg_169⟩
theorem cdP_170 : cP 170 cd_170 := ⟨cda_170, cdb_170, cdg_170⟩
theorem cdP_171 : cP 171 cd_171 := ⟨cda_171, cdb_171, cdg_171⟩
theorem cdP_172 : cP 172 cd_172 := ⟨cda_172, cdb_172, cdg_172⟩
theorem cdP_173 : cP 173 cd_173 := ⟨cda_173, cdb_173, cdg_173⟩
theorem cdP_174 : cP 174 cd_174 := ⟨cda_174, cdb_174, cdg_174⟩
theorem cdP_175 : cP 175 cd_175 := ⟨cda_175, cdb_175, cdg_175⟩
theorem cdP_176 : cP 176 cd_176 := ⟨cda_176, cdb_176, cdg_176⟩
theorem cdP_177 : cP 177 cd_177 := ⟨cda_177, cdb_177, cdg_177⟩
theorem cdP_178 : cP 178 cd_178 := ⟨cda_178, cdb_178, cdg_178⟩
theorem cdP_179 : cP 179 cd_179 := ⟨cda_179, cdb_179, cdg_179⟩
theorem cdP_180 : cP 180 cd_180 := ⟨cda_180, cdb_180, cdg_180⟩
theorem cdP_181 : cP 181 cd_181 := ⟨cda_181, cdb_181, cdg_181⟩
theorem cdP_182 : cP 182 cd_182 := ⟨cda_182, cdb_182, cdg_182⟩
theorem cdP_183 : cP 183 cd_183 := ⟨cda_183, cdb_183, cdg_183⟩
theorem cdP_184 : cP 184 cd_184 := ⟨cda_184, cdb_184, cdg_184⟩
theorem cdP_185 : cP 185 cd_185 := ⟨cda_185, cdb_185, cdg_185⟩
theorem cdP_186 : cP 186 cd_186 := ⟨cda_186, cdb_186, cdg_186⟩
theorem cdP_187 : cP 187 cd_187 := ⟨cda_187, cdb_187, cdg_187⟩
theorem cdP_188 : cP 188 cd_188 := ⟨cda_188, cdb_188, cdg_188⟩
theorem cdP_189 : cP 189 cd_189 := ⟨cda_189, cdb_189, cdg_189⟩
theorem cdP_190 : cP 190 cd_190 := ⟨cda_190, cdb_190, cdg_190⟩
theorem cdP_191 : cP 191 cd_191 := ⟨cda_191, cdb_191, cdg_191⟩
theorem cdP_192 : cP 192 cd_192 := ⟨cda_192, cdb_192, cdg_192⟩
theorem cdP_193 : cP 193 cd_193 := ⟨cda_193, cdb_193, cdg_193⟩
theorem cdP_194 : cP 194 cd_194 := ⟨cda_194, cdb_194, cdg_194⟩
theorem cdP_195 : cP 195 cd_195 := ⟨cda_195, cdb_195, cdg_195⟩
theorem cdP_196 : cP 196 cd_196 := ⟨cda_196, cdb_196, cdg_196⟩
theorem cdP_197 : cP 197 cd_197 := ⟨cda_197, cdb_197, cdg_197⟩
theorem cdP_198 : cP 198 cd_198 := ⟨cda_198, cdb_198, cdg_198⟩
theorem cdP_199 : cP 199 cd_199 := ⟨cda_199, cdb_199, cdg_199⟩
theorem cdP_200 : cP 200 cd_200 := ⟨cda_200, cdb_200, cdg_200⟩
theorem cdP_201 : cP 201 cd_201 := ⟨cda_201, cdb_201, cdg_201⟩
theorem cdP_202 : cP 202 cd_202 := ⟨cda_202, cdb_202, cdg_202⟩
theorem cdP_203 : cP 203 cd_203 := ⟨cda_203, cdb_203, cdg_203⟩
theorem cdP_204 : cP 204 cd_204 := ⟨cda_204, cdb_204, cdg_204⟩
theorem cdP_205 : cP 205 cd_205 := ⟨cda_205, cdb_205, cdg_205⟩
theorem cdP_206 : cP 206 cd_206 := ⟨cda_206, cdb_206, cdg_206⟩
theorem cdP_207 : cP 207 cd_207 := ⟨cda_207, cdb_207, cdg_207⟩
theorem cdP_208 : cP 208 cd_208 := ⟨cda_208, cdb_208, cdg_208⟩
theorem cdP_209 : cP 209 cd_209 := ⟨cda_209, cdb_209, cdg_209⟩
theorem cdP_210 : cP 210 cd_210 := ⟨cda_210, cdb_210, cdg_210⟩
theorem cdP_211 : cP 211 cd_211 := ⟨cda_211, cdb_211, cdg_211⟩
theorem cdP_212 : cP 212 cd_212 := ⟨cda_212, cdb_212, cdg_212⟩
theorem cdP_213 : cP 213 cd_213 := ⟨cda_213, cdb_213, cdg_213⟩
theorem cdP_214 : cP 214 cd_214 := ⟨cda_214, cdb_214, cdg_214⟩
theorem cdP_215 : cP 215 cd_215 := ⟨cda_215, cdb_215, cdg_215⟩
theorem cdP_216 : cP 216 cd_216 := ⟨cda_216, cdb_216, cdg_216⟩
theorem cdP_217 : cP 217 cd_217 := ⟨cda_217, cdb_217, cdg_217⟩
theorem cdP_218 : cP 218 cd_218 := ⟨cda_218, cdb_218, cdg_218⟩
theorem cdP_219 : cP 219 cd_219 := ⟨cda_219, cdb_219, cdg_219⟩
theorem cdP_220 : cP 220 cd_220 := ⟨cda_220, cdb_220, cdg_220⟩
theorem cdP_221 : cP 221 cd_221 := ⟨cda_221, cdb_221, cdg_221⟩
theorem cdP_222 : cP 222 cd_222 := ⟨cda_222, cdb_222, cdg_222⟩
theorem cdP_223 : cP 223 cd_223 := ⟨cda_223, cdb_223, cdg_223⟩
theorem cdP_224 : cP 224 cd_224 := ⟨cda_224, cdb_224, cdg_224⟩
theorem cdP_225 : cP 225 cd_225 := ⟨cda_225, cdb_225, cdg_225⟩
theorem cdP_226 : cP 226 cd_226 := ⟨cda_226, cdb_226, cdg_226⟩
theorem cdP_227 : cP 227 cd_227 := ⟨cda_227, cdb_227, cdg_227⟩
theorem cdP_228 : cP 228 cd_228 := ⟨cda_228, cdb_228, cdg_228⟩
theorem cdP_229 : cP 229 cd_229 := ⟨cda_229, cdb_229, cdg_229⟩
theorem cdP_230 : cP 230 cd_230 := ⟨cda_230, cdb_230, cdg_230⟩
theorem cdP_231 : cP 231 cd_231 := ⟨cda_231, cdb_231, cdg_231⟩
theorem cdP_232 : cP 232 cd_232 := ⟨cda_232, cdb_232, cdg_232⟩
theorem cdP_233 : cP 233 cd_233 := ⟨cda_233, cdb_233, cdg_233⟩
theorem cdP_234 : cP 234 cd_234 := ⟨cda_234, cdb_234, cdg_234⟩
theorem cdP_235 : cP 235 cd_235 := ⟨cda_235, cdb_235, cdg_235⟩
theorem cdP_236 : cP 236 cd_236 := ⟨cda_236, cdb_236, cdg_236⟩
theorem cdP_237 : cP 237 cd_237 := ⟨cda_237, cdb_237, cdg_237⟩
theorem cdP_238 : cP 238 cd_238 := ⟨cda_238, cdb_238, cdg_238⟩
theorem cdP_239 : cP 239 cd_239 := ⟨cda_239, cdb_239, cdg_239⟩
theorem cdP_240 : cP 240 cd_240 := ⟨cda_240, cdb_240, cdg_240⟩
theorem cdP_241 : cP 241 cd_241 := ⟨cda_241, cdb_241, cdg_241⟩
theorem cdP_242 : cP 242 cd_242 := ⟨cda_242, cdb_242, cdg_242⟩
theorem cdP_243 : cP 243 cd_243 := ⟨cda_243, cdb_243, cdg_243⟩
theorem cdP_244 : cP 244 cd_244 := ⟨cda_244, cdb_244, cdg_244⟩
theorem cdP_245 : cP 245 cd_245 := ⟨cda_245, cdb_245, cdg_245⟩
theorem cdP_246 : cP 246 cd_246 := ⟨cda_246, cdb_246, cdg_246⟩
theorem cdP_247 : cP 247 cd_247 := ⟨cda_247, cdb_247, cdg_247⟩
theorem cdP_248 : cP 248 cd_248 := ⟨cda_248, cdb_248, cdg_248⟩
theorem cdP_249 : cP 249 cd_249 := ⟨cda_249, cdb_249, cdg_249⟩
theorem cdP_250 : cP 250 cd_250 := ⟨cda_250, cdb_250, cdg_250⟩
theorem cdP_251 : cP 251 cd_251 := ⟨cda_251, cdb_251, cdg_251⟩
theorem cdP_252 : cP 252 cd_252 := ⟨cda_252, cdb_252, cdg_252⟩
theorem cdP_253 : cP 253 cd_253 := ⟨cda_253, cdb_253, cdg_253⟩
theorem cdP_254 : cP 254 cd_254 := ⟨cda_254, cdb_254, cdg_254⟩
theorem cdP_255 : cP 255 cd_255 := ⟨cda_255, cdb_255, cdg_255⟩
theorem cdP_256 : cP 256 cd_256 := ⟨cda_256, cdb_256, cdg_256⟩
theorem cdP_257 : cP 257 cd_257 := ⟨cda_257, cdb_257, cdg_257⟩
theorem cdP_258 : cP 258 cd_258 := ⟨cda_258, cdb_258, cdg_258⟩
theorem cdP_259 : cP 259 cd_259 := ⟨cda_259, cdb_259, cdg_259⟩
theorem cdP_260 : cP 260 cd_260 := ⟨cda_260, cdb_260, cdg_260⟩
theorem cdP_261 : cP 261 cd_261 := ⟨cda_261, cdb_261, cdg_261⟩
theorem cdP_262 : cP 262 cd_262 := ⟨cda_262, cdb_262, cdg_262⟩
theorem cdP_263 : cP 263 cd_263 := ⟨cda_263, cdb_263, cdg_263⟩
theorem cdP_264 : cP 264 cd_264 := ⟨cda_264, cdb_264, cdg_264⟩
theorem cdP_265 : cP 265 cd_265 := ⟨cda_265, cdb_265, cdg_265⟩
theorem cdP_266 : cP 266 cd_266 := ⟨cda_266, cdb_266, cdg_266⟩
theorem cdP_267 : cP 267 cd_267 := ⟨cda_267, cdb_267, cdg_267⟩
theorem cdP_268 : cP 268 cd_268 := ⟨cda_268, cdb_268, cdg_268⟩
theorem cdP_269 : cP 269 cd_269 := ⟨cda_269, cdb_269, cdg_269⟩
theorem cdP_270 : cP 270 cd_270 := ⟨cda_270, cdb_270, cdg_270⟩
theorem cdP_271 : cP 271 cd_271 := ⟨cda_271, cdb_271, cdg_271⟩
theorem cdP_272 : cP 272 cd_272 := ⟨cda_272, cdb_272, cdg_272⟩
theorem cdP_273 : cP 273 cd_273 := ⟨cda_273, cdb_273, cdg_273⟩
theorem cdP_274 : cP 274 cd_274 := ⟨cda_274, cdb_274, cdg_274⟩
theorem cdP_275 : cP 275 cd_275 := ⟨cda_275, cdb_275, cdg_275⟩
theorem cdP_276 : cP 276 cd_276 := ⟨cda_276, cdb_276, cdg_276⟩
theorem cdP_277 : cP 277 cd_277 := ⟨cda_277, cdb_277, cdg_277⟩
theorem cdP_278 : cP 278 cd_278 := ⟨cda_278, cdb_278, cdg_278⟩
theorem cdP_279 : cP 279 cd_279 := ⟨cda_279, cdb_279, cdg_279⟩
theorem cdP_280 : cP 280 cd_280 := ⟨cda_280, cdb_280, cdg_280⟩
theorem cdP_281 : cP 281 cd_281 := ⟨cda_281, cdb_281, cdg_281⟩
theorem cdP_282 : cP 282 cd_282 := ⟨cda_282, cdb_282, cdg_282⟩
theorem cdP_283 : cP 283 cd_283 := ⟨cda_283, cdb_283, cdg_283⟩
theorem cdP_284 : cP 284 cd_284 := ⟨cda_284, cdb_284, cdg_284⟩
theorem cdP_285 : cP 285 cd_285 := ⟨cda_285, cdb_285, cdg_285⟩
theorem cdP_286 : cP 286 cd_286 := ⟨cda_286, cdb_286, cdg_286⟩
theorem cdP_287 : cP 287 cd_287 := ⟨cda_287, cdb_287, cdg_287⟩
theorem cdP_288 : cP 288 cd_288 := ⟨cda_288, cdb_288, cdg_288⟩
theorem cdP_289 : cP 289 cd_289 := ⟨cda_289, cdb_289, cdg_289⟩
theorem cdP_290 : cP 290 cd_290 := ⟨cda_290, cdb_290, cdg_290⟩
theorem cdP_291 : cP 291 cd_291 := ⟨cda_291, cdb_291, cdg_291⟩
theorem cdP_292 : cP 292 cd_292 := ⟨cda_292, cdb_292, cdg_292⟩
theorem cdP_293 : cP 293 cd_293 := ⟨cda_293, cdb_293, cdg_293⟩
theorem cdP_294 : cP 294 cd_294 := ⟨cda_294, cdb_294, cdg_294⟩
theorem cdP_295 : cP 295 cd_295 := ⟨cda_295, cdb_295, cdg_295⟩
theorem cdP_296 : cP 296 cd_296 := ⟨cda_296, cdb_296, cdg_296⟩
theorem cdP_297 : cP 297 cd_297 := ⟨cda_297, cdb_297, cdg_297⟩
theorem cdP_298 : cP 298 cd_298 := ⟨cda_298, cdb_298, cdg_298⟩
theorem cdP_299 : cP 299 cd_299 := ⟨cda_299, cdb_299, cdg_299⟩
theorem cdP_300 : cP 300 cd_300 := ⟨cda_300, cdb_300, cdg_300⟩
theorem cdP_301 : cP 301 cd_301 := ⟨cda_301, cdb_301, cdg_301⟩
theorem cdP_302 : cP 302 cd_302 := ⟨cda_302, cdb_302, cdg_302⟩
theorem cdP_303 : cP 303 cd_303 := ⟨cda_303, cdb_303, cdg_303⟩
theorem cdP_304 : cP 304 cd_304 := ⟨cda_304, cdb_304, cdg_304⟩
theorem cdP_305 : cP 305 cd_305 := ⟨cda_305, cdb_305, cdg_305⟩
theorem cdP_306 : cP 306 cd_306 := ⟨cda_306, cdb_306, cdg_306⟩
theorem cdP_307 : cP 307 cd_307 := ⟨cda_307, cdb_307, cdg_307⟩
theorem cdP_308 : cP 308 cd_308 := ⟨cda_308, cdb_308, cdg_308⟩
theorem cdP_309 : cP 309 cd_309 := ⟨cda_309, cdb_309, cdg_309⟩
theorem cdP_310 : cP 310 cd_310 := ⟨cda_310, cdb_310, cdg_310⟩
theorem cdP_311 : cP 311 cd_311 := ⟨cda_311, cdb_311, cdg_311⟩
theorem cdP_312 : cP 312 cd_312 := ⟨cda_312, cdb_312, cdg_312⟩
theorem cdP_313 : cP 313 cd_313 := ⟨cda_313, cdb_313, cdg_313⟩
theorem cdP_314 : cP 314 cd_314 := ⟨cda_314, cdb_314, cdg_314⟩
theorem cdP_315 : cP 315 cd_315 := ⟨cda_315, cdb_315, cdg_315⟩
theorem cdP_316 : cP 316 cd_316 := ⟨cda_316, cdb_316, cdg_316⟩
theorem cdP_317 : cP 317 cd_317 := ⟨cda_317, cdb_317, cdg_317⟩
theorem cdP_318 : cP 318 cd_318 := ⟨cda_318, cdb_318, cdg_318⟩
theorem cdP_319 : cP 319 cd_319 := ⟨cda_319, cdb_319, cdg_319⟩
theorem cdP_320 : cP 320 cd_320 := ⟨cda_320, cdb_320, cdg_320⟩
theorem cdP_321 : cP 321 cd_321 := ⟨cda_321, cdb_321, cdg_321⟩
theorem cdP_322 : cP 322 cd_322 := ⟨cda_322, cdb_322, cdg_322⟩
theorem cdP_323 : cP 323 cd_323 := ⟨cda_323, cdb_323, cdg_323⟩
theorem cdP_324 : cP 324 cd_324 := ⟨cda_324, cdb_324, cdg_324⟩
theorem cdP_325 : cP 325 cd_325 := ⟨cda_325, cdb_325, cdg_325⟩
theorem cdP_326 : cP 326 cd_326 := ⟨cda_326, cdb_326, cdg_326⟩
theorem cdP_327 : cP 327 cd_327 := ⟨cda_327, cdb_327, cdg_327⟩
theorem cdP_328 : cP 328 cd_328 := ⟨cda_328, cdb_328, cdg_328⟩
theorem cdP_329 : cP 329 cd_329 := ⟨cda_329, cdb_329, cdg_329⟩
theorem cdP_330 : cP 330 cd_330 := ⟨cda_330, cdb_330, cdg_330⟩
theorem cdP_331 : cP 331 cd_331 := ⟨cda_331, cdb_331, cdg_331⟩
theorem cdP_332 : cP 332 cd_332 := ⟨cda_332, cdb_332, cdg_332⟩
theorem cdP_333 : cP 333 cd_333 := ⟨cda_333, cdb_333, cdg_333⟩
theorem cdP_334 : cP 334 cd_334 := ⟨cda_334, cdb_334, cdg_334⟩
theorem cdP_335 : cP 335 cd_335 := ⟨cda_335, cdb_335, cdg_335⟩
theorem cdP_336 : cP 336 cd_336 := ⟨cda_336, cdb_336, cdg_336⟩
theorem cdP_337 : cP 337 cd_337 := ⟨cda_337, cdb_337, cdg_337⟩
theorem cdP_338 : cP 338 cd_338 := ⟨cda_338, cdb_338, cdg_338⟩
theorem cdP_339 : cP 339 cd_339 := ⟨cda_339, cdb_339, cdg_339⟩
theorem cdP_340 : cP 340 cd_340 := ⟨cda_340, cdb_340, cdg_340⟩
theorem cdP_341 : cP 341 cd_341 := ⟨cda_341, cdb_341, cdg_341⟩
theorem cdP_342 : cP 342 cd_342 := ⟨cda_342, cdb_342, cdg_342⟩
theorem cdP_343 : cP 343 cd_343 := ⟨cda_343, cdb_343, cdg_343⟩
theorem cdP_344 : cP 344 cd_344 := ⟨cda_344, cdb_344, cdg_344⟩
theorem cdP_345 : cP 345 cd_345 := ⟨cda_345, cdb_345, cdg_345⟩
theorem cdP_346 : cP 346 cd_346 := ⟨cda_346, cdb_346, cdg_346⟩
theorem cdP_347 : cP 347 cd_347 := ⟨cda_347, cdb_347, cdg_347⟩
theorem cdP_348 : cP 348 cd_348 := ⟨cda_348, cdb_348, cdg_348⟩
theorem cdP_349 : cP 349 cd_349 := ⟨cda_349, cdb_349, cdg_349⟩
theorem cdP_350 : cP 350 cd_350 := ⟨cda_350, cdb_350, cdg_350⟩
theorem cdP_351 : cP 351 cd_351 := ⟨cda_351, cdb_351, cdg_351⟩
theorem cdP_352 : cP 352 cd_352 := ⟨cda_352, cdb_352, cdg_352⟩
theorem cdP_353 : cP 353 cd_353 := ⟨cda_353, cdb_353, cdg_353⟩
theorem cdP_354 : cP 354 cd_354 := ⟨cda_354, cdb_354, cdg_354⟩
theorem cdP_355 : cP 355 cd_355 := ⟨cda_355, cdb_355, cdg_355⟩
theorem cdP_356 : cP 356 cd_356 := ⟨cda_356, cdb_356, cdg_356⟩
theorem cdP_357 : cP 357 cd_357 := ⟨cda_357, cdb_357, cdg_357⟩
theorem cdP_358 : cP 358 cd_358 := ⟨cda_358, cdb_358, cdg_358⟩
theorem cdP_359 : cP 359 cd_359 := ⟨cda_359, cdb_359, cdg_359⟩
theorem cdP_360 : cP 360 cd_360 := ⟨cda_360, cdb_360, cdg_360⟩
theorem cdP_361 : cP 361 cd_361 := ⟨cda_361, cdb_361, cdg_361⟩
theorem cdP_362 : cP 362 cd_362 := ⟨cda_362, cdb_362, cdg_362⟩
theorem cdP_363 : cP 363 cd_363 := ⟨cda_363, cdb_363, cdg_363⟩
theorem cdP_364 : cP 364 cd_364 := ⟨cda_364, cdb_364, cdg_364⟩
theorem cdP_365 : cP 365 cd_365 := ⟨cda_365, cdb_365, cdg_365⟩
theorem cdP_366 : cP 366 cd_366 := ⟨cda_366, cdb_366, cdg_366⟩
theorem cdP_367 : cP 367 cd_367 := ⟨cda_367, cdb_367, cdg_367⟩
theorem cdP_368 : cP 368 cd_368 := ⟨cda_368, cdb_368, cdg_368⟩
theorem cdP_369 : cP 369 cd_369 := ⟨cda_369, cdb_369, cdg_369⟩
theorem cdP_370 : cP 370 cd_370 := ⟨cda_370, cdb_370, cdg_370⟩
theorem cdP_371 : cP 371 cd_371 := ⟨cda_371, cdb_371, cdg_371⟩
theorem cdP_372 : cP 372 cd_372 := ⟨cda_372, cdb_372, cdg_372⟩
theorem cdP_373 : cP 373 cd_373 := ⟨cda_373, cdb_373, cdg_373⟩
theorem cdP_374 : cP 374 cd_374 := ⟨cda_374, cdb_374, cdg_374⟩
theorem cdP_375 : cP 375 cd_375 := ⟨cda_375, cdb_375, cdg_375⟩
theorem cdP_376 : cP 376 cd_376 := ⟨cda_376, cdb_376, cdg_376⟩
theorem cdP_377 : cP 377 cd_377 := ⟨cda_377, cdb_377, cdg_377⟩
theorem cdP_378 : cP 378 cd_378 := ⟨cda_378, cdb_378, cdg_378⟩
theorem cdP_379 : cP 379 cd_379 := ⟨cda_379, cdb_379, cdg_379⟩
theorem cdP_380 : cP 380 cd_380 := ⟨cda_380, cdb_380, cdg_380⟩
theorem cdP_381 : cP 381 cd_381 := ⟨cda_381, cdb_381, cdg_381⟩
theorem cdP_382 : cP 382 cd_382 := ⟨cda_382, cdb_382, cdg_382⟩
theorem cdP_383 : cP 383 cd_383 := ⟨cda_383, cdb_383, cdg_383⟩
theorem cdP_384 : cP 384 cd_384 := ⟨cda_384, cdb_384, cdg_384⟩
theorem cdP_385 : cP 385 cd_385 := ⟨cda_385, cdb_385, cdg_385⟩
theorem cdP_386 : cP 386 cd_386 := ⟨cda_386, cdb_386, cdg_386⟩
theorem cdP_387 : cP 387 cd_387 := ⟨cda_387, cdb_387, cdg_387⟩
theorem cdP_388 : cP 388 cd_388 := ⟨cda_388, cdb_388, cdg_388⟩
theorem cdP_389 : cP 389 cd_389 := ⟨cda_389, cdb_389, cdg_389⟩
theorem cdP_390 : cP 390 cd_390 := ⟨cda_390, cdb_390, cdg_390⟩
theorem cdP_391 : cP 391 cd_391 := ⟨cda_391, cdb_391, cdg_391⟩
theorem cdP_392 : cP 392 cd_392 := ⟨cda_392, cdb_392, cdg_392⟩
theorem cdP_393 : cP 393 cd_393 := ⟨cda_393, cdb_393, cdg_393⟩
theorem cdP_394 : cP 394 cd_394 := ⟨cda_394, cdb_394, cdg_394⟩
theorem cdP_395 : cP 395 cd_395 := ⟨cda_395, cdb_395, cdg_395⟩
theorem cdP_396 : cP 396 cd_396 := ⟨cda_396, cdb_396, cdg_396⟩
theorem cdP_397 : cP 397 cd_397 := ⟨cda_397, cdb_397, cdg_397⟩
theorem cdP_398 : cP 398 cd_398 := ⟨cda_398, cdb_398, cdg_398⟩
theorem cdP_399 : cP 399 cd_399 := ⟨cda_399, cdb_399, cdg_399⟩
theorem cdP_400 : cP 400 cd_400 := ⟨cda_400, cdb_400, cdg_400⟩
theorem cdP_401 : cP 401 cd_401 := ⟨cda_401, cdb_401, cdg_401⟩
theorem cdP_402 : cP 402 cd_402 := ⟨cda_402, cdb_402, cdg_402⟩
theorem cPs_0 (y : Nat) (h1 : 0 ≤ y) (h2 : y < 32) : cP y (cG y) := by
  by_cases h16 : y < 16
  · by_cases h8 : y < 8
    · by_cases h4 : y < 4
      · by_cases h2 : y < 2
        · by_cases h1 : y < 1
          · obtain rfl : y = 0 := by omega
            exact cdP_0
          · obtain rfl : y = 1 := by omega
            exact cdP_1
        · by_cases h3 : y < 3
          · obtain rfl : y = 2 := by omega
            exact cdP_2
          · obtain rfl : y = 3 := by omega
            exact cdP_3
      · by_cases h6 : y < 6
        · by_cases h5 : y < 5
          · obtain rfl : y = 4 := by omega
            exact cdP_4
          · obtain rfl : y = 5 := by omega
            exact cdP_5
        · by_cases h7 : y < 7
          · obtain rfl : y = 6 := by omega
            exact cdP_6
          · obtain rfl : y = 7 := by omega
            exact cdP_7
    · by_cases h12 : y < 12
      · by_cases h10 : y < 10
        · by_cases h9 : y < 9
          · obtain rfl : y = 8 := by omega
            exact cdP_8
          · obtain rfl : y = 9 := by omega
            exact cdP_9
        · by_cases h11 : y < 11
          · obtain rfl : y = 10 := by omega
            exact cdP_10
          · obtain rfl : y = 11 := by omega
            exact cdP_11
      · by_cases h14 : y < 14
        · by_cases h13 : y < 13
          · obtain rfl : y = 12 := by omega
            exact cdP_12
          · obtain rfl : y = 13 := by omega
            exact cdP_13
        · by_cases h15 : y < 15
          · obtain rfl : y = 14 := by omega
            exact cdP_14
          · obtain rfl : y = 15 := by omega
            exact cdP_15
  · by_cases h24 : y < 24
    · by_cases h20 : y < 20
      · by_cases h18 : y < 18
        · by_cases h17 : y < 17
          · obtain rfl : y = 16 := by omega
            exact cdP_16
          · obtain rfl : y = 17 := by omega
            exact cdP_17
        · by_cases h19 : y < 19
          · obtain rfl : y = 18 := by omega
            exact cdP_18
          · obtain rfl : y = 19 := by omega
            exact cdP_19
      · by_cases h22 : y < 22
        · by_cases h21 : y < 21
          · obtain rfl : y = 20 := by omega
            exact cdP_20
          · obtain rfl : y = 21 := by omega
            exact cdP_21
        · by_cases h23 : y < 23
          · obtain rfl : y = 22 := by omega
            exact cdP_22
          · obtain rfl : y = 23 := by omega
            exact cdP_23
    · by_cases h28 : y < 28
      · by_cases h26 : y < 26
        · by_cases h25 : y < 25
          · obtain rfl : y = 24 := by omega
            exact cdP_24
          · obtain rfl : y = 25 := by omega
            exact cdP_25
        · by_cases h27 : y < 27
          · obtain rfl : y = 26 := by omega
            exact cdP_26
          · obtain rfl : y = 27 := by omega
            exact cdP_27
      · by_cases h30 : y < 30
        · by_cases h29 : y < 29
          · obtain rfl : y = 28 := by omega
            exact cdP_28
          · obtain rfl : y = 29 := by omega
            exact cdP_29
        · by_cases h31 : y < 31
          · obtain rfl : y = 30 := by omega
            exact cdP_30
          · obtain rfl : y = 31 := by omega
            exact cdP_31
theorem cPs_1 (y : Nat) (h1 : 32 ≤ y) (h2 : y < 64) : cP y (cG y) := by
  by_cases h48 : y < 48
  · by_cases h40 : y < 40
    · by_cases h36 : y < 36
      · by_cases h34 : y < 34
        · by_cases h33 : y < 33
          · obtain rfl : y = 32 := by omega
            exact cdP_32
          · obtain rfl : y = 33 := by omega
            exact cdP_33
        · by_cases h35 : y < 35
          · obtain rfl : y = 34 := by omega
            exact cdP_34
          · obtain rfl : y = 35 := by omega
            exact cdP_35
      · by_cases h38 : y < 38
        · by_cases h37 : y < 37
          · obtain rfl : y = 36 := by omega
            exact cdP_36
          · obtain rfl : y = 37 := by omega
            exact cdP_37
        · by_cases h39 : y < 39
          · obtain rfl : y = 38 := by omega
            exact cdP_38
          · obtain rfl : y = 39 := by omega
            exact cdP_39
    · by_cases h44 : y < 44
      · by_cases h42 : y < 42
        · by_cases h41 : y < 41
          · obtain rfl : y = 40 := by omega
            exact cdP_40
          · obtain rfl : y = 41 := by omega
            exact cdP_41
        · by_cases h43 : y < 43
          · obtain rfl : y = 42 := by omega
            exact cdP_42
          · obtain rfl : y = 43 := by omega
            exact cdP_43
      · by_cases h46 : y < 46
        · by_cases h45 : y < 45
          · obtain rfl : y = 44 := by omega
            exact cdP_44
          · obtain rfl : y = 45 := by omega
            exact cdP_45
        · by_cases h47 : y < 47
          · obtain rfl : y = 46 := by omega
            exact cdP_46
          · obtain rfl : y = 47 := by omega
            exact cdP_47
  · by_cases h56 : y < 56
    · by_cases h52 : y < 52
      · by_cases h50 : y < 50
        · by_cases h49 : y < 49
          · obtain rfl : y = 48 := by omega
            exact cdP_48
          · obtain rfl : y = 49 := by omega
            exact cdP_49
        · by_cases h51 : y < 51
          · obtain rfl : y = 50 := by omega
            exact cdP_50
          · obtain rfl : y = 51 := by omega
            exact cdP_51
      · by_cases h54 : y < 54
        · by_cases h53 : y < 53
          · obtain rfl : y = 52 := by omega
            exact cdP_52
          · obtain rfl : y = 53 := by omega
            exact cdP_53
        · by_cases h55 : y < 55
          · obtain rfl : y = 54 := by omega
            exact cdP_54
          · obtain rfl : y = 55 := by omega
            exact cdP_55
    · by_cases h60 : y < 60
      · by_cases h58 : y < 58
        · by_cases h57 : y < 57
          · obtain rfl : y = 56 := by omega
            exact cdP_56
          · obtain rfl : y = 57 := by omega
            exact cdP_57
        · by_cases h59 : y < 59
          · obtain rfl : y = 58 := by omega
            exact cdP_58
          · obtain rfl : y = 59 := by omega
            exact cdP_59
      · by_cases h62 : y < 62
        · by_cases h61 : y < 61
          · obtain rfl : y = 60 := by omega
            exact cdP_60
          · obtain rfl : y = 61 := by omega
            exact cdP_61
        · by_cases h63 : y < 63
          · obtain rfl : y = 62 := by omega
            exact cdP_62
          · obtain rfl : y = 63 := by omega
            exact cdP_63
theorem cPs_2 (y : Nat) (h1 : 64 ≤ y) (h2 : y < 96) : cP y (cG y) := by
  by_cases h80 : y < 80
  · by_cases h72 : y < 72
    · by_cases h68 : y < 68
      · by_cases h66 : y < 66
        · by_cases h65 : y < 65
          · obtain rfl : y = 64 := by omega
            exact cdP_64
          · obtain rfl : y = 65 := by omega
            exact cdP_65
        · by_cases h67 : y < 67
          · obtain rfl : y = 66 := by omega
            exact cdP_66
          · obtain rfl : y = 67 := by omega
            exact cdP_67
      · by_cases h70 : y < 70
        · by_cases h69 : y < 69
          · obtain rfl : y = 68 := by omega
            exact cdP_68
          · obtain rfl : y = 69 := by omega
            exact cdP_69
        · by_cases h71 : y < 71
          · obtain rfl : y = 70 := by omega
            exact cdP_70
          · obtain rfl : y = 71 := by omega
            exact cdP_71
    · by_cases h76 : y < 76
      · by_cases h74 : y < 74
        · by_cases h73 : y < 73
          · obtain rfl : y = 72 := by omega
            exact cdP_72
          · obtain rfl : y = 73 := by omega
            exact cdP_73
        · by_cases h75 : y < 75
          · obtain rfl : y = 74 := by omega
            exact cdP_74
          · obtain rfl : y = 75 := by omega
            exact cdP_75
      · by_cases h78 : y < 78
        · by_cases h77 : y < 77
          · obtain rfl : y = 76 := by omega
            exact cdP_76
          · obtain rfl : y = 77 := by omega
            exact cdP_77
        · by_cases h79 : y < 79
          · obtain rfl : y = 78 := by omega
            exact cdP_78
          · obtain rfl : y = 79 := by omega
            exact cdP_79
  · by_cases h88 : y < 88
    · by_cases h84 : y < 84
      · by_cases h82 : y < 82
        · by_cases h81 : y < 81
          · obtain rfl : y = 80 := by omega
            exact cdP_80
          · obtain rfl : y = 81 := by omega
            exact cdP_81
        · by_cases h83 : y < 83
          · obtain rfl : y = 82 := by omega
            exact cdP_82
          · obtain rfl : y = 83 := by omega
            exact cdP_83
      · by_cases h86 : y < 86
        · by_cases h85 : y < 85
          · obtain rfl : y = 84 := by omega
            exact cdP_84
          · obtain rfl : y = 85 := by omega
            exact cdP_85
        · by_cases h87 : y < 87
          · obtain rfl : y = 86 := by omega
            exact cdP_86
          · obtain rfl : y = 87 := by omega
            exact cdP_87
    · by_cases h92 : y < 92
      · by_cases h90 : y < 90
        · by_cases h89 : y < 89
          · obtain rfl : y = 88 := by omega
            exact cdP_88
          · obtain rfl : y = 89 := by omega
            exact cdP_89
        · by_cases h91 : y < 91
          · obtain rfl : y = 90 := by omega
            exact cdP_90
          · obtain rfl : y = 91 := by omega
            exact cdP_91
      · by_cases h94 : y < 94
        · by_cases h93 : y < 93
          · obtain rfl : y = 92 := by omega
            exact cdP_92
          · obtain rfl : y = 93 := by omega
            exact cdP_93
        · by_cases h95 : y < 95
          · obtain rfl : y = 94 := by omega
            exact cdP_94
          · obtain rfl : y = 95 := by omega
            exact cdP_95
theorem cPs_3 (y : Nat) (h1 : 96 ≤ y) (h2 : y < 128) : cP y (cG y) := by
  by_cases h112 : y < 112
  · by_cases h104 : y < 104
    · by_cases h100 : y < 100
      · by_cases h98 : y < 98
        · by_cases h97 : y < 97
          · obtain rfl : y = 96 := by omega
            exact cdP_96
          · obtain rfl : y = 97 := by omega
            exact cdP_97
        · by_cases h99 : y < 99
          · obtain rfl : y = 98 := by omega
            exact cdP_98
          · obtain rfl : y = 99 := by omega
            exact cdP_99
      · by_cases h102 : y < 102
        · by_cases h101 : y < 101
          · obtain rfl : y = 100 := by omega
            exact cdP_100
          · obtain rfl : y = 101 := by omega
            exact cdP_101
        · by_cases h103 : y < 103
          · obtain rfl : y = 102 := by omega
            exact cdP_102
          · obtain rfl : y = 103 := by omega
            exact cdP_103
    · by_cases h108 : y < 108
      · by_cases h106 : y < 106
        · by_cases h105 : y < 105
          · obtain rfl : y = 104 := by omega
            exact cdP_104
          · obtain rfl : y = 105 := by omega
            exact cdP_105
        · by_cases h107 : y < 107
          · obtain rfl : y = 106 := by omega
            exact cdP_106
          · obtain rfl : y = 107 := by omega
            exact cdP_107
      · by_cases h110 : y < 110
        · by_cases h109 : y < 109
          · obtain rfl : y = 108 := by omega
            exact cdP_108
          · obtain rfl : y = 109 := by omega
            exact cdP_109
        · by_cases h111 : y < 111
          · obtain rfl : y = 110 := by omega
            exact cdP_110
          · obtain rfl : y = 111 := by omega
            exact cdP_111
  · by_cases h120 : y < 120
    · by_cases h116 : y < 116
      · by_cases h114 : y < 114
        · by_cases h113 : y < 113
          · obtain rfl : y = 112 := by omega
            exact cdP_112
          · obtain rfl : y = 113 := by omega
            exact cdP_113
        · by_cases h115 : y < 115
          · obtain rfl : y = 114 := by omega
            exact cdP_114
          · obtain rfl : y = 115 := by omega
            exact cdP_115
      · by_cases h118 : y < 118
        · by_cases h117 : y < 117
          · obtain rfl : y = 116 := by omega
            exact cdP_116
          · obtain rfl : y = 117 := by omega
            exact cdP_117
        · by_cases h119 : y < 119
          · obtain rfl : y = 118 := by omega
            exact cdP_118
          · obtain rfl : y = 119 := by omega
            exact cdP_119
    · by_cases h124 : y < 124
      · by_cases h122 : y < 122
        · by_cases h121 : y < 121
          · obtain rfl : y = 120 := by omega
            exact cdP_120
          · obtain rfl : y = 121 := by omega
            exact cdP_121
        · by_cases h123 : y < 123
          · obtain rfl : y = 122 := by omega
            exact cdP_122
          · obtain rfl : y = 123 := by omega
            exact cdP_123
      · by_cases h126 : y < 126
        · by_cases h125 : y < 125
          · obtain rfl : y = 124 := by omega
            exact cdP_124
          · obtain rfl : y = 125 := by omega
            exact cdP_125
        · by_cases h127 : y < 127
          · obtain rfl : y = 126 := by omega
            exact cdP_126
          · obtain rfl : y = 127 := by omega
            exact cdP_127
theorem cPs_4 (y : Nat) (h1 : 128 ≤ y) (h2 : y < 160) : cP y (cG y) := by
  by_cases h144 : y < 144
  · by_cases h136 : y < 136
    · by_cases h132 : y < 132
      · by_cases h130 : y < 130
        · by_cases h129 : y < 129
          · obtain rfl : y = 128 := by omega
            exact cdP_128
          · obtain rfl : y = 129 := by omega
            exact cdP_129
        · by_cases h131 : y < 131
          · obtain rfl : y = 130 := by omega
            exact cdP_130
          · obtain rfl : y = 131 := by omega
            exact cdP_131
      · by_cases h134 : y < 134
        · by_cases h133 : y < 133
          · obtain rfl : y = 132 := by omega
            exact cdP_132
          · obtain rfl : y = 133 := by omega
            exact cdP_133
        · by_cases h135 : y < 135
          · obtain rfl : y = 134 := by omega
            exact cdP_134
          · obtain rfl : y = 135 := by omega
            exact cdP_135
    · by_cases h140 : y < 140
      · by_cases h138 : y < 138
        · by_cases h137 : y < 137
          · obtain rfl : y = 136 := by omega
            exact cdP_136
          · obtain rfl : y = 137 := by omega
            exact cdP_137
        · by_cases h139 : y < 139
          · obtain rfl : y = 138 := by omega
            exact cdP_138
          · obtain rfl : y = 139 := by omega
            exact cdP_139
      · by_cases h142 : y < 142
        · by_cases h141 : y < 141
          · obtain rfl : y = 140 := by omega
            exact cdP_140
          · obtain rfl : y = 141 := by omega
            exact cdP_141
        · by_cases h143 : y < 143
          · obtain rfl : y = 142 := by omega
            exact cdP_142
          · obtain rfl : y = 143 := by omega
            exact cdP_143
  · by_cases h152 : y < 152
    · by_cases h148 : y < 148
      · by_cases h146 : y < 146
        · by_cases h145 : y < 145
          · obtain rfl : y = 144 := by omega
            exact cdP_144
          · obtain rfl : y = 145 := by omega
            exact cdP_145
        · by_cases h147 : y < 147
          · obtain rfl : y = 146 := by omega
            exact cdP_146
          · obtain rfl : y = 147 := by omega
            exact cdP_147
      · by_cases h150 : y < 150
        · by_cases h149 : y < 149
          · obtain rfl : y = 148 := by omega
            exact cdP_148
          · obtain rfl : y = 149 := by omega
            exact cdP_149
        · by_cases h151 : y < 151
          · obtain rfl : y = 150 := by omega
            exact cdP_150
          · obtain rfl : y = 151 := by omega
            exact cdP_151
    · by_cases h156 : y < 156
      · by_cases h154 : y < 154
        · by_cases h153 : y < 153
          · obtain rfl : y = 152 := by omega
            exact cdP_152
          · obtain rfl : y = 153 := by omega
            exact cdP_153
        · by_cases h155 : y < 155
          · obtain rfl : y = 154 := by omega
            exact cdP_154
          · obtain rfl : y = 155 := by omega
            exact cdP_155
      · by_cases h158 : y < 158
        · by_cases h157 : y < 157
          · obtain rfl : y = 156 := by omega
            exact cdP_156
          · obtain rfl : y = 157 := by omega
            exact cdP_157
        · by_cases h159 : y < 159
          · obtain rfl : y = 158 := by omega
            exact cdP_158
          · obtain rfl : y = 159 := by omega
            exact cdP_159
theorem cPs_5 (y : Nat) (h1 : 160 ≤ y) (h2 : y < 192) : cP y (cG y) := by
  by_cases h176 : y < 176
  · by_cases h168 : y < 168
    · by_cases h164 : y < 164
      · by_cases h162 : y < 162
        · by_cases h161 : y < 161
          · obtain rfl : y = 160 := by omega
            exact cdP_160
          · obtain rfl : y = 161 := by omega
            exact cdP_161
        · by_cases h163 : y < 163
          · obtain rfl : y = 162 := by omega
            exact cdP_162
          · obtain rfl : y = 163 := by omega
            exact cdP_163
      · by_cases h166 : y < 166
        · by_cases h165 : y < 165
          · obtain rfl : y = 164 := by omega
            exact cdP_164
          · obtain rfl : y = 165 := by omega
            exact cdP_165
        · by_cases h167 : y < 167
          · obtain rfl : y = 166 := by omega
            exact cdP_166
          · obtain rfl : y = 167 := by omega
            exact cdP_167
    · by_cases h172 : y < 172
      · by_cases h170 : y < 170
        · by_cases h169 : y < 169
          · obtain rfl : y = 168 := by omega
            exact cdP_168
          · obtain rfl : y = 169 := by omega
            exact cdP_169
        · by_cases h171 : y < 171
          · obtain rfl : y = 170 := by omega
            exact cdP_170
          · obtain rfl : y = 171 := by omega
            exact cdP_171
      · by_cases h174 : y < 174
        · by_cases h173 : y < 173
          · obtain rfl : y = 172 := by omega
            exact cdP_172
          · obtain rfl : y = 173 := by omega
            exact cdP_173
        · by_cases h175 : y < 175
          · obtain rfl : y = 174 := by omega
            exact cdP_174
          · obtain rfl : y = 175 := by omega
            exact cdP_175
  · by_cases h184 : y < 184
    · by_cases h180 : y < 180
      · by_cases h178 : y < 178
        · by_cases h177 : y < 177
          · obtain rfl : y = 176 := by omega
            exact cdP_176
          · obtain rfl : y = 177 := by omega
            exact cdP_177
        · by_cases h179 : y < 179
          · obtain rfl : y = 178 := by omega
            exact cdP_178
          · obtain rfl : y = 179 := by omega
            exact cdP_179
      · by_cases h182 : y < 182
        · by_cases h181 : y < 181
          · obtain rfl : y = 180 := by omega
            exact cdP_180
          · obtain rfl : y = 181 := by omega
            exact cdP_181
        · by_cases h183 : y < 183
          · obtain rfl : y = 182 := by omega
            exact cdP_182
          · obtain rfl : y = 183 := by omega
            exact cdP_183
    · by_cases h188 : y < 188
      · by_cases h186 : y < 186
        · by_cases h185 : y < 185
          · obtain rfl : y = 184 := by omega
            exact cdP_184
          · obtain rfl : y = 185 := by omega
            exact cdP_185
        · by_cases h187 : y < 187
          · obtain rfl : y = 186 := by omega
            exact cdP_186
          · obtain rfl : y = 187 := by omega
            exact cdP_187
      · by_cases h190 : y < 190
        · by_cases h189 : y < 189
          · obtain rfl : y = 188 := by omega
            exact cdP_188
          · obtain rfl : y = 189 := by omega
            exact cdP_189
        · by_cases h191 : y < 191
          · obtain rfl : y = 190 := by omega
            exact cdP_190
          · obtain rfl : y = 191 := by omega
            exact cdP_191
theorem cPs_6 (y : Nat) (h1 : 192 ≤ y) (h2 : y < 224) : cP y (cG y) := by
  by_cases h208 : y < 208
  · by_cases h200 : y < 200
    · by_cases h196 : y < 196
      · by_cases h194 : y < 194
        · by_cases h193 : y < 193
          · obtain rfl : y = 192 := by omega
            exact cdP_192
          · obtain rfl : y = 193 := by omega
            exact cdP_193
        · by_cases h195 : y < 195
          · obtain rfl : y = 194 := by omega
            exact cdP_194
          · obtain rfl : y = 195 := by omega
            exact cdP_195
      · by_cases h198 : y < 198
        · by_cases h197 : y < 197
          · obtain rfl : y = 196 := by omega
            exact cdP_196
          · obtain rfl : y = 197 := by omega
            exact cdP_197
        · by_cases h199 : y < 199
          · obtain rfl : y = 198 := by omega
            exact cdP_198
          · obtain rfl : y = 199 := by omega
            exact cdP_199
    · by_cases h204 : y < 204
      · by_cases h202 : y < 202
        · by_cases h201 : y < 201
          · obtain rfl : y = 200 := by omega
            exact cdP_200
          · obtain rfl : y = 201 := by omega
            exact cdP_201
        · by_cases h203 : y < 203
          · obtain rfl : y = 202 := by omega
            exact cdP_202
          · obtain rfl : y = 203 := by omega
            exact cdP_203
      · by_cases h206 : y < 206
        · by_cases h205 : y < 205
          · obtain rfl : y = 204 := by omega
            exact cdP_204
          · obtain rfl : y = 205 := by omega
            exact cdP_205
        · by_cases h207 : y < 207
          · obtain rfl : y = 206 := by omega
            exact cdP_206
          · obtain rfl : y = 207 := by omega
            exact cdP_207
  · by_cases h216 : y < 216
    · by_cases h212 : y < 212
      · by_cases h210 : y < 210
        · by_cases h209 : y < 209
          · obtain rfl : y = 208 := by omega
            exact cdP_208
          · obtain rfl : y = 209 := by omega
            exact cdP_209
        · by_cases h211 : y < 211
          · obtain rfl : y = 210 := by omega
            exact cdP_210
          · obtain rfl : y = 211 := by omega
            exact cdP_211
      · by_cases h214 : y < 214
        · by_cases h213 : y < 213
          · obtain rfl : y = 212 := by omega
            exact cdP_212
          · obtain rfl : y = 213 := by omega
            exact cdP_213
        · by_cases h215 : y < 215
          · obtain rfl : y = 214 := by omega
            exact cdP_214
          · obtain rfl : y = 215 := by omega
            exact cdP_215
    · by_cases h220 : y < 220
      · by_cases h218 : y < 218
        · by_cases h217 : y < 217
          · obtain rfl : y = 216 := by omega
            exact cdP_216
          · obtain rfl : y = 217 := by omega
            exact cdP_217
        · by_cases h219 : y < 219
          · obtain rfl : y = 218 := by omega
            exact cdP_218
          · obtain rfl : y = 219 := by omega
            exact cdP_219
      · by_cases h222 : y < 222
        · by_cases h221 : y < 221
          · obtain rfl : y = 220 := by omega
            exact cdP_220
          · obtain rfl : y = 221 := by omega
            exact cdP_221
        · by_cases h223 : y < 223
          · obtain rfl : y = 222 := by omega
            exact cdP_222
          · obtain rfl : y = 223 := by omega
            exact cdP_223
theorem cPs_7 (y : Nat) (h1 : 224 ≤ y) (h2 : y < 256) : cP y (cG y) := by
  by_cases h240 : y < 240
  · by_cases h232 : y < 232
    · by_cases h228 : y < 228
      · by_cases h226 : y < 226
        · by_cases h225 : y < 225
          · obtain rfl : y = 224 := by omega
            exact cdP_224
          · obtain rfl : y = 225 := by omega
            exact cdP_225
        · by_cases h227 : y < 227
          · obtain rfl : y = 226 := by omega
            exact cdP_226
          · obtain rfl : y = 227 := by omega
            exact cdP_227
      · by_cases h230 : y < 230
        · by_cases h229 : y < 229
          · obtain rfl : y = 228 := by omega
            exact cdP_228
          · obtain rfl : y = 229 := by omega
            exact cdP_229
        · by_cases h231 : y < 231
          · obtain rfl : y = 230 := by omega
            exact cdP_230
          · obtain rfl : y = 231 := by omega
            exact cdP_231
    · by_cases h236 : y < 236
      · by_cases h234 : y < 234
        · by_cases h233 : y < 233
          · obtain rfl : y = 232 := by omega
            exact cdP_232
          · obtain rfl : y = 233 := by omega
            exact cdP_233
        · by_cases h235 : y < 235
          · obtain rfl : y = 234 := by omega
            exact cdP_234
          · obtain rfl : y = 235 := by omega
            exact cdP_235
      · by_cases h238 : y < 238
        · by_cases h237 : y < 237
          · obtain rfl : y = 236 := by omega
            exact cdP_236
          · obtain rfl : y = 237 := by omega
            exact cdP_237
        · by_cases h239 : y < 239
          · obtain rfl : y = 238 := by omega
            exact cdP_238
          · obtain rfl : y = 239 := by omega
            exact cdP_239
  · by_cases h248 : y < 248
    · by_cases h244 : y < 244
      · by_cases h242 : y < 242
        · by_cases h241 : y < 241
          · obtain rfl : y = 240 := by omega
            exact cdP_240
          · obtain rfl : y = 241 := by omega
            exact cdP_241
        · by_cases h243 : y < 243
          · obtain rfl : y = 242 := by omega
            exact cdP_242
          · obtain rfl : y = 243 := by omega
            exact cdP_243
      · by_cases h246 : y < 246
        · by_cases h245 : y < 245
          · obtain rfl : y = 244 := by omega
            exact cdP_244
          · obtain rfl : y = 245 := by omega
            exact cdP_245
        · by_cases h247 : y < 247
          · obtain rfl : y = 246 := by omega
            exact cdP_246
          · obtain rfl : y = 247 := by omega
            exact cdP_247
    · by_cases h252 : y < 252
      · by_cases h250 : y < 250
        · by_cases h249 : y < 249
          · obtain rfl : y = 248 := by omega
            exact cdP_248
          · obtain rfl : y = 249 := by omega
            exact cdP_249
        · by_cases h251 : y < 251
          · obtain rfl : y = 250 := by omega
            exact cdP_250
          · obtain rfl : y = 251 := by omega
            exact cdP_251
      · by_cases h254 : y < 254
        · by_cases h253 : y < 253
          · obtain rfl : y = 252 := by omega
            exact cdP_252
          · obtain rfl : y = 253 := by omega
            exact cdP_253
        · by_cases h255 : y < 255
          · obtain rfl : y = 254 := by omega
            exact cdP_254
          · obtain rfl : y = 255 := by omega
            exact cdP_255
theorem cPs_8 (y : Nat) (h1 : 256 ≤ y) (h2 : y < 288) : cP y (cG y) := by
  by_cases h272 : y < 272
  · by_cases h264 : y < 264
    · by_cases h260 : y < 260
      · by_cases h258 : y < 258
        · by_cases h257 : y < 257
          · obtain rfl : y = 256 := by omega
            exact cdP_256
          · obtain rfl : y = 257 := by omega
            exact cdP_257
        · by_cases h259 : y < 259
          · obtain rfl : y = 258 := by omega
            exact cdP_258
          · obtain rfl : y = 259 := by omega
            exact cdP_259
      · by_cases h262 : y < 262
        · by_cases h261 : y < 261
          · obtain rfl : y = 260 := by omega
            exact cdP_260
          · obtain rfl : y = 261 := by omega
            exact cdP_261
        · by_cases h263 : y < 263
          · obtain rfl : y = 262 := by omega
            exact cdP_262
          · obtain rfl : y = 263 := by omega
            exact cdP_263
    · by_cases h268 : y < 268
      · by_cases h266 : y < 266
        · by_cases h265 : y < 265
          · obtain rfl : y = 264 := by omega
            exact cdP_264
          · obtain rfl : y = 265 := by omega
            exact cdP_265
        · by_cases h267 : y < 267
          · obtain rfl : y = 266 := by omega
            exact cdP_266
          · obtain rfl : y = 267 := by omega
            exact cdP_267
      · by_cases h270 : y < 270
        · by_cases h269 : y < 269
          · obtain rfl : y = 268 := by omega
            exact cdP_268
          · obtain rfl : y = 269 := by omega
            exact cdP_269
        · by_cases h271 : y < 271
          · obtain rfl : y = 270 := by omega
            exact cdP_270
          · obtain rfl : y = 271 := by omega
            exact cdP_271
  · by_cases h280 : y < 280
    · by_cases h276 : y < 276
      · by_cases h274 : y < 274
        · by_cases h273 : y < 273
          · obtain rfl : y = 272 := by omega
            exact cdP_272
          · obtain rfl : y = 273 := by omega
            exact cdP_273
        · by_cases h275 : y < 275
          · obtain rfl : y = 274 := by omega
            exact cdP_274
          · obtain rfl : y = 275 := by omega
            exact cdP_275
      · by_cases h278 : y < 278
        · by_cases h277 : y < 277
          · obtain rfl : y = 276 := by omega
            exact cdP_276
          · obtain rfl : y = 277 := by omega
            exact cdP_277
        · by_cases h279 : y < 279
          · obtain rfl : y = 278 := by omega
            exact cdP_278
          · obtain rfl : y = 279 := by omega
            exact cdP_279
    · by_cases h284 : y < 284
      · by_cases h282 : y < 282
        · by_cases h281 : y < 281
          · obtain rfl : y = 280 := by omega
            exact cdP_280
          · obtain rfl : y = 281 := by omega
            exact cdP_281
        · by_cases h283 : y < 283
          · obtain rfl : y = 282 := by omega
            exact cdP_282
          · obtain rfl : y = 283 := by omega
            exact cdP_283
      · by_cases h286 : y < 286
        · by_cases h285 : y < 285
          · obtain rfl : y = 284 := by omega
            exact cdP_284
          · obtain rfl : y = 285 := by omega
            exact cdP_285
        · by_cases h287 : y < 287
          · obtain rfl : y = 286 := by omega
            exact cdP_286
          · obtain rfl : y = 287 := by omega
            exact cdP_287
theorem cPs_9 (y : Nat) (h1 : 288 ≤ y) (h2 : y < 320) : cP y (cG y) := by
  by_cases h304 : y < 304
  · by_cases h296 : y < 296
    · by_cases h292 : y < 292
      · by_cases h290 : y < 290
        · by_cases h289 : y < 289
          · obtain rfl : y = 288 := by omega
            exact cdP_288
          · obtain rfl : y = 289 := by omega
            exact cdP_289
        · by_cases h291 : y < 291
          · obtain rfl : y = 290 := by omega
            exact cdP_290
          · obtain rfl : y = 291 := by omega
            exact cdP_291
      · by_cases h294 : y < 294
        · by_cases h293 : y < 293
          · obtain rfl : y = 292 := by omega
            exact cdP_292
          · obtain rfl : y = 293 := by omega
            exact cdP_293
        · by_cases h295 : y < 295
          · obtain rfl : y = 294 := by omega
            exact cdP_294
          · obtain rfl : y = 295 := by omega
            exact cdP_295
    · by_cases h300 : y < 300
      · by_cases h298 : y < 298
        · by_cases h297 : y < 297
          · obtain rfl : y = 296 := by omega
            exact cdP_296
          · obtain rfl : y = 297 := by omega
            exact cdP_297
        · by_cases h299 : y < 299
          · obtain rfl : y = 298 := by omega
            exact cdP_298
          · obtain rfl : y = 299 := by omega
            exact cdP_299
      · by_cases h302 : y < 302
        · by_cases h301 : y < 301
          · obtain rfl : y = 300 := by omega
            exact cdP_300
          · obtain rfl : y = 301 := by omega
            exact cdP_301
        · by_cases h303 : y < 303
          · obtain rfl : y = 302 := by omega
            exact cdP_302
          · obtain rfl : y = 303 := by omega
            exact cdP_303
  · by_cases h312 : y < 312
    · by_cases h308 : y < 308
      · by_cases h306 : y < 306
        · by_cases h305 : y < 305
          · obtain rfl : y = 304 := by omega
            exact cdP_304
          · obtain rfl : y = 305 := by omega
            exact cdP_305
        · by_cases h307 : y < 307
          · obtain rfl : y = 306 := by omega
            exact cdP_306
          · obtain rfl : y = 307 := by omega
            exact cdP_307
      · by_cases h310 : y < 310
        · by_cases h309 : y < 309
          · obtain rfl : y = 308 := by omega
            exact cdP_308
          · obtain rfl : y = 309 := by omega
            exact cdP_309
        · by_cases h311 : y < 311
          · obtain rfl : y = 310 := by omega
            exact cdP_310
          · obtain rfl : y = 311 := by omega
            exact cdP_311
    · by_cases h316 : y < 316
      · by_cases h314 : y < 314
        · by_cases h313 : y < 313
          · obtain rfl : y = 312 := by omega
            exact cdP_312
          · obtain rfl : y = 313 := by omega
            exact cdP_313
        · by_cases h315 : y < 315
          · obtain rfl : y = 314 := by omega
            exact cdP_314
          · obtain rfl : y = 315 := by omega
            exact cdP_315
      · by_cases h318 : y < 318
        · by_cases h317 : y < 317
          · obtain rfl : y = 316 := by omega
            exact cdP_316
          · obtain rfl : y = 317 := by omega
            exact cdP_317
        · by_cases h319 : y < 319
          · obtain rfl : y = 318 := by omega
            exact cdP_318
          · obtain rfl : y = 319 := by omega
            exact cdP_319
theorem cPs_10 (y : Nat) (h1 : 320 ≤ y) (h2 : y < 352) : cP y (cG y) := by
  by_cases h336 : y < 336
  · by_cases h328 : y < 328
    · by_cases h324 : y < 324
      · by_cases h322 : y < 322
        · by_cases h321 : y < 321
          · obtain rfl : y = 320 := by omega
            exact cdP_320
          · obtain rfl : y = 321 := by omega
            exact cdP_321
        · by_cases h323 : y < 323
          · obtain rfl : y = 322 := by omega
            exact cdP_322
          · obtain rfl : y = 323 := by omega
            exact cdP_323
      · by_cases h326 : y < 326
        · by_cases h325 : y < 325
          · obtain rfl : y = 324 := by omega
            exact cdP_324
          · obtain rfl : y = 325 := by omega
            exact cdP_325
        · by_cases h327 : y < 327
          · obtain rfl : y = 326 := by omega
            exact cdP_326
          · obtain rfl : y = 327 := by omega
            exact cdP_327
    · by_cases h332 : y < 332
      · by_cases h330 : y < 330
        · by_cases h329 : y < 329
          · obtain rfl : y = 328 := by omega
            exact cdP_328
          · obtain rfl : y = 329 := by omega
            exact cdP_329
        · by_cases h331 : y < 331
          · obtain rfl : y = 330 := by omega
            exact cdP_330
          · obtain rfl : y = 331 := by omega
            exact cdP_331
      · by_cases h334 : y < 334
        · by_cases h333 : y < 333
          · obtain rfl : y = 332 := by omega
            exact cdP_332
          · obtain rfl : y = 333 := by omega
            exact cdP_333
        · by_cases h335 : y < 335
          · obtain rfl : y = 334 := by omega
            exact cdP_334
          · obtain rfl : y = 335 := by omega
            exact cdP_335
  · by_cases h344 : y < 344
    · by_cases h340 : y < 340
      · by_cases h338 : y < 338
        · by_cases h337 : y < 337
          · obtain rfl : y = 336 := by omega
            exact cdP_336
          · obtain rfl : y = 337 := by omega
            exact cdP_337
        · by_cases h339 : y < 339
          · obtain rfl : y = 338 := by omega
            exact cdP_338
          · obtain rfl : y = 339 := by omega
            exact cdP_339
      · by_cases h342 : y < 342
        · by_cases h341 : y < 341
          · obtain rfl : y = 340 := by omega
            exact cdP_340
          · obtain rfl : y = 341 := by omega
            exact cdP_341
        · by_cases h343 : y < 343
          · obtain rfl : y = 342 := by omega
            exact cdP_342
          · obtain rfl : y = 343 := by omega
            exact cdP_343
    · by_cases h348 : y < 348
      · by_cases h346 : y < 346
        · by_cases h345 : y < 345
          · obtain rfl : y = 344 := by omega
            exact cdP_344
          · obtain rfl : y = 345 := by omega
            exact cdP_345
        · by_cases h347 : y < 347
          · obtain rfl : y = 346 := by omega
            exact cdP_346
          · obtain rfl : y = 347 := by omega
            exact cdP_347
      · by_cases h350 : y < 350
        · by_cases h349 : y < 349
          · obtain rfl : y = 348 := by omega
            exact cdP_348
          · obtain rfl : y = 349 := by omega
            exact cdP_349
        · by_cases h351 : y < 351
          · obtain rfl : y = 350 := by omega
            exact cdP_350
          · obtain rfl : y = 351 := by omega
            exact cdP_351
theorem cPs_11 (y : Nat) (h1 : 352 ≤ y) (h2 : y < 384) : cP y (cG y) := by
  by_cases h368 : y < 368
  · by_cases h360 : y < 360
    · by_cases h356 : y < 356
      · by_cases h354 : y < 354
        · by_cases h353 : y < 353
          · obtain rfl : y = 352 := by omega
            exact cdP_352
          · obtain rfl : y = 353 := by omega
            exact cdP_353
        · by_cases h355 : y < 355
          · obtain rfl : y = 354 := by omega
            exact cdP_354
          · obtain rfl : y = 355 := by omega
            exact cdP_355
      · by_cases h358 : y < 358
        · by_cases h357 : y < 357
          · obtain rfl : y = 356 := by omega
            exact cdP_356
          · obtain rfl : y = 357 := by omega
            exact cdP_357
        · by_cases h359 : y < 359
          · obtain rfl : y = 358 := by omega
            exact cdP_358
          · obtain rfl : y = 359 := by omega
            exact cdP_359
    · by_cases h364 : y < 364
      · by_cases h362 : y < 362
        · by_cases h361 : y < 361
          · obtain rfl : y = 360 := by omega
            exact cdP_360
          · obtain rfl : y = 361 := by omega
            exact cdP_361
        · by_cases h363 : y < 363
          · obtain rfl : y = 362 := by omega
            exact cdP_362
          · obtain rfl : y = 363 := by omega
            exact cdP_363
      · by_cases h366 : y < 366
        · by_cases h365 : y < 365
          · obtain rfl : y = 364 := by omega
            exact cdP_364
          · obtain rfl : y = 365 := by omega
            exact cdP_365
        · by_cases h367 : y < 367
          · obtain rfl : y = 366 := by omega
            exact cdP_366
          · obtain rfl : y = 367 := by omega
            exact cdP_367
  · by_cases h376 : y < 376
    · by_cases h372 : y < 372
      · by_cases h370 : y < 370
        · by_cases h369 : y < 369
          · obtain rfl : y = 368 := by omega
            exact cdP_368
          · obtain rfl : y = 369 := by omega
            exact cdP_369
        · by_cases h371 : y < 371
          · obtain rfl : y = 370 := by omega
            exact cdP_370
          · obtain rfl : y = 371 := by omega
            exact cdP_371
      · by_cases h374 : y < 374
        · by_cases h373 : y < 373
          · obtain rfl : y = 372 := by omega
            exact cdP_372
          · obtain rfl : y = 373 := by omega
            exact cdP_373
        · by_cases h375 : y < 375
          · obtain rfl : y = 374 := by omega
            exact cdP_374
          · obtain rfl : y = 375 := by omega
            exact cdP_375
    · by_cases h380 : y < 380
      · by_cases h378 : y < 378
        · by_cases h377 : y < 377
          · obtain rfl : y = 376 := by omega
            exact cdP_376
          · obtain rfl : y = 377 := by omega
            exact cdP_377
        · by_cases h379 : y < 379
          · obtain rfl : y = 378 := by omega
            exact cdP_378
          · obtain rfl : y = 379 := by omega
            exact cdP_379
      · by_cases h382 : y < 382
        · by_cases h381 : y < 381
          · obtain rfl : y = 380 := by omega
            exact cdP_380
          · obtain rfl : y = 381 := by omega
            exact cdP_381
        · by_cases h383 : y < 383
          · obtain rfl : y = 382 := by omega
            exact cdP_382
          · obtain rfl : y = 383 := by omega
            exact cdP_383
theorem cPs_12 (y : Nat) (h1 : 384 ≤ y) (h2 : y < 403) : cP y (cG y) := by
  by_cases h393 : y < 393
  · by_cases h388 : y < 388
    · by_cases h386 : y < 386
      · by_cases h385 : y < 385
        · obtain rfl : y = 384 := by omega
          exact cdP_384
        · obtain rfl : y = 385 := by omega
          exact cdP_385
      · by_cases h387 : y < 387
        · obtain rfl : y = 386 := by omega
          exact cdP_386
        · obtain rfl : y = 387 := by omega
          exact cdP_387
    · by_cases h390 : y < 390
      · by_cases h389 : y < 389
        · obtain rfl : y = 388 := by omega
          exact cdP_388
        · obtain rfl : y = 389 := by omega
          exact cdP_389
      · by_cases h391 : y < 391
        · obtain rfl : y = 390 := by omega
          exact cdP_390
        · by_cases h392 : y < 392
          · obtain rfl : y = 391 := by omega
            exact cdP_391
          · obtain rfl : y = 392 := by omega
            exact cdP_392
  · by_cases h398 : y < 398
    · by_cases h395 : y < 395
      · by_cases h394 : y < 394
        · obtain rfl : y = 393 := by omega
          exact cdP_393
        · obtain rfl : y = 394 := by omega
          exact cdP_394
      · by_cases h396 : y < 396
        · obtain rfl : y = 395 := by omega
          exact cdP_395
        · by_cases h397 : y < 397
          · obtain rfl : y = 396 := by omega
            exact cdP_396
          · obtain rfl : y = 397 := by omega
            exact cdP_397
    · by_cases h400 : y < 400
      · by_cases h399 : y < 399
        · obtain rfl : y = 398 := by omega
          exact cdP_398
        · obtain rfl : y = 399 := by omega
          exact cdP_399
      · by_cases h401 : y < 401
        · obtain rfl : y = 400 := by omega
          exact cdP_400
        · by_cases h402 : y < 402
          · obtain rfl : y = 401 := by omega
            exact cdP_401
          · obtain rfl : y = 402 := by omega
            exact cdP_402
theorem cPs (y : Nat) (h : y < 403) : cP y (cG y) := by
  by_cases h6 : y < 192
  · by_cases h3 : y < 96
    · by_cases h1 : y < 32
      · exact cPs_0 y (by omega) (by omega)
      · by_cases h2 : y < 64
        · exact cPs_1 y (by omega) (by omega)
        · exact cPs_2 y (by omega) (by omega)
    · by_cases h4 : y < 128
      · exact cPs_3 y (by omega) (by omega)
      · by_cases h5 : y < 160
        · exact cPs_4 y (by omega) (by omega)
        · exact cPs_5 y (by omega) (by omega)
  · by_cases h9 : y < 288
    · by_cases h7 : y < 224
      · exact cPs_6 y (by omega) (by omega)
      · by_cases h8 : y < 256
        · exact cPs_7 y (by omega) (by omega)
        · exact cPs_8 y (by omega) (by omega)
    · by_cases h11 : y < 352
      · by_cases h10 : y < 320
        · exact cPs_9 y (by omega) (by omega)
        · exact cPs_10 y (by omega) (by omega)
      · by_cases h12 : y < 384
        · exact cPs_11 y (by omega) (by omega)
        · exact cPs_12 y (by omega) (by omega)
theorem nth_far {α : Type} : ∀ {l : List α} {n : Nat}, l.length ≤ n → nth l n = none
  | [], _, _ => rfl
  | _ :: t, 0, h => absurd h (by simp only [List.length_cons]; omega)
  | _ :: t, n + 1, h => nth_far (l := t) (n := n) (by simp only [List.length_cons] at h; omega)
theorem nthD_far {α : Type} {d : α} {l : List α} {n : Nat} (h : l.length ≤ n) : nthD l n d = d := by
  unfold nthD
  rw [nth_far h]
theorem mK_all : (List.range 403).all (fun y => Nat.ble (mK y).1 2) = true := by decide +kernel
theorem mK_le (y : Nat) (h : y < 403) : (mK y).1 ≤ 2 := Nat.le_of_ble_eq_true (List.all_eq_true.mp mK_all y (List.mem_range.mpr h))
theorem cG_out (y : Nat) (h : 403 ≤ y) : cG y = [] := by
  have key : ∀ (k i : Nat), 32 * k + i = y → i < 32 → nthD (nthD tCs k []) i [] = [] := by
    intro k i e hi
    by_cases hk : k < 13
    · obtain rfl : k = 12 := by omega
      have hi2 : 19 ≤ i := by omega
      exact (fun (L : List (List (List CR))) (hL : L.length = 19) => (nthD_far (d := []) (by omega) : nthD L i [] = [])) tC_12 rfl
    · have : nthD tCs k [] = [] := nthD_far (by show tCs.length ≤ k; have : tCs.length = 13 := rfl; omega)
      rw [this]
      rfl
  exact key (y / 32) (y % 32) (Nat.div_add_mod y 32) (Nat.mod_lt _ (by omega))
theorem hcd (y : Nat) : (∀ pc, (cdF y pc).1 = .nop) ∨ okT mY mB mL mT mK exS exZ cdF y := by
  by_cases h : y < 403
  · refine Or.inr (okT_of ?_ (cPs y h))
    exact (rowOkY y (mK_le y h)).2
  · refine Or.inl fun pc => ?_
    unfold cdF
    rw [cG_out y (by omega)]
    rfl
