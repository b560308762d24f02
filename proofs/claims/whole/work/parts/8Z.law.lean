/-! the law: call after call -/
theorem tag1000 : tagW G0 1000 = 99 := rfl
section
variable {X : pX}
theorem sc20 : (roT X 1000).1 = 20 := rfl
theorem sc20o : (roT X 1000).1 = 20 ∨ (roT X 1000).1 = 24 := Or.inl rfl
theorem sc_n : Int32.ofNat (roT X 1000).2 = nI X.1 := rfl
theorem sc_in {j : Nat} (h : j < X.1 ∧ X.1 < 2147483648) : inb (nI j) (roT X 1000).2 = true := i_inb h.1 h.2
theorem sc_c {L n : Nat} (h : L ≤ 3584) (h2 : n ≤ 1000) : (nI L - nI 7 < nI (7 * n)) = (L < 7 * n + 7) := propext (by
  rw [Int32.lt_iff_toInt_lt, sub_i (by omega) (by omega), i_toInt (by omega)]
  omega)
variable {n : Nat} {I : pI} {Q : Option Value → pG → pI → Prop}
theorem lw_0 (hW : Wd n I) (h7 : 7 * n + 7 ≤ X.1) (hX : X.1 ≤ 3584) (next : ∀ I', Wd (n + 1) I' → At X 15 239 1392 [some (.ref 1000), some (.ref 0), some (.ref 102), some (.int (nI (7 * n)))] [] G0 I' Q) :
    At X 15 239 192 [some (.ref 1000), some (.ref 0), some (.ref 102), some (.int (nI (7 * n)))] [] G0 I Q := by
  simp (disch := first | exact ok_i | exact ok_r | exact ok_n | exact cat_i | exact cat_r | exact tag1000 | exact sc20 | exact sc20o | (refine sc_in ?_; omega) | exact ro_1 | omega | assumption | (simp only [List.map_cons, List.map_nil, List.sum_cons, List.sum_nil, cat_i, cat_r, cat_l, Nat.reduceAdd, Nat.reduceLeDiff]; done) | decide) only [s239_192, s239_193, s239_194, s239_195, s239_196, s239_197R, s239_198, s239_199, s239_200, s239_201, s239_202R, tl_s, tl_n, nI_add, pk_mul, i_cl, row_s, u2_row, i_le, i_lt, i_eq, if_true, if_false, Nat.le_refl, Nat.reduceEqDiff, Nat.reduceLeDiff, Nat.add_assoc, Nat.reduceAdd]
  rw [s239_203 (by simp only [List.map_cons, List.map_nil, List.sum_cons, List.sum_nil, cat_i, cat_r, cat_l, Nat.reduceAdd, Nat.reduceLeDiff])]
  refine (w_build hW) _ (fun v I' hM => ?_)
  simp (disch := first | exact ok_i | exact ok_r | exact ok_n | exact cat_i | exact cat_r | exact tag1000 | exact sc20 | exact sc20o | (refine sc_in ?_; omega) | exact ro_1 | omega | assumption | (simp only [List.map_cons, List.map_nil, List.sum_cons, List.sum_nil, cat_i, cat_r, cat_l, Nat.reduceAdd, Nat.reduceLeDiff]; done) | decide) only [s239_206, s239_207, s239_208, s239_209, s239_210, s239_211R, s239_212, s239_213, s239_214, s239_215, s239_216R, tl_s, tl_n, nI_add, pk_mul, i_cl, row_s, u2_row, i_le, i_lt, i_eq, if_true, if_false, Nat.le_refl, Nat.reduceEqDiff, Nat.reduceLeDiff, Nat.add_assoc, Nat.reduceAdd]
  rw [s239_217 (by simp only [List.map_cons, List.map_nil, List.sum_cons, List.sum_nil, cat_i, cat_r, cat_l, Nat.reduceAdd, Nat.reduceLeDiff])]
  refine hM _ (fun I'' hW' => ?_)
  simp (disch := first | exact ok_i | exact ok_r | exact ok_n | exact cat_i | exact cat_r | exact tag1000 | exact sc20 | exact sc20o | (refine sc_in ?_; omega) | exact ro_1 | omega | assumption | (simp only [List.map_cons, List.map_nil, List.sum_cons, List.sum_nil, cat_i, cat_r, cat_l, Nat.reduceAdd, Nat.reduceLeDiff]; done) | decide) only [s239_220, tl_s, tl_n, nI_add, pk_mul, i_cl, row_s, u2_row, i_le, i_lt, i_eq, if_true, if_false, Nat.le_refl, Nat.reduceEqDiff, Nat.reduceLeDiff]
  exact next I'' hW'
theorem lw_1 (hW : Wd n I) (h7 : 7 * n + 7 ≤ X.1) (hX : X.1 ≤ 3584) (next : ∀ I', Wd (n + 1) I' → At X 15 239 1392 [some (.ref 1000), some (.ref 0), some (.ref 102), some (.int (nI (7 * n)))] [] G0 I' Q) :
    At X 15 239 225 [some (.ref 1000), some (.ref 0), some (.ref 102), some (.int (nI (7 * n)))] [] G0 I Q := by
  simp (disch := first | exact ok_i | exact ok_r | exact ok_n | exact cat_i | exact cat_r | exact tag1000 | exact sc20 | exact sc20o | (refine sc_in ?_; omega) | exact ro_1 | omega | assumption | (simp only [List.map_cons, List.map_nil, List.sum_cons, List.sum_nil, cat_i, cat_r, cat_l, Nat.reduceAdd, Nat.reduceLeDiff]; done) | decide) only [s239_225, s239_226, s239_227, s239_228, s239_229, s239_230R, s239_231, s239_232, s239_233, s239_234, s239_235R, s239_236, s239_237, s239_238, s239_239, s239_240R, s239_241, s239_242, s239_243, s239_244, s239_245R, tl_s, tl_n, nI_add, pk_mul, i_cl, row_s, u2_row, i_le, i_lt, i_eq, if_true, if_false, Nat.le_refl, Nat.reduceEqDiff, Nat.reduceLeDiff, Nat.add_assoc, Nat.reduceAdd]
  rw [s239_246 (by simp only [List.map_cons, List.map_nil, List.sum_cons, List.sum_nil, cat_i, cat_r, cat_l, Nat.reduceAdd, Nat.reduceLeDiff])]
  refine (w_car hW) _ (fun v I' hM => ?_)
  simp (disch := first | exact ok_i | exact ok_r | exact ok_n | exact cat_i | exact cat_r | exact tag1000 | exact sc20 | exact sc20o | (refine sc_in ?_; omega) | exact ro_1 | omega | assumption | (simp only [List.map_cons, List.map_nil, List.sum_cons, List.sum_nil, cat_i, cat_r, cat_l, Nat.reduceAdd, Nat.reduceLeDiff]; done) | decide) only [s239_249, s239_250, s239_251, s239_252, s239_253, s239_254R, s239_255, s239_256, s239_257, s239_258, s239_259R, s239_260, s239_261, s239_262, s239_263, s239_264R, s239_265, s239_266, s239_267, s239_268, s239_269R, tl_s, tl_n, nI_add, pk_mul, i_cl, row_s, u2_row, i_le, i_lt, i_eq, if_true, if_false, Nat.le_refl, Nat.reduceEqDiff, Nat.reduceLeDiff, Nat.add_assoc, Nat.reduceAdd]
  rw [s239_270 (by simp only [List.map_cons, List.map_nil, List.sum_cons, List.sum_nil, cat_i, cat_r, cat_l, Nat.reduceAdd, Nat.reduceLeDiff])]
  refine hM _ (fun I'' hW' => ?_)
  simp (disch := first | exact ok_i | exact ok_r | exact ok_n | exact cat_i | exact cat_r | exact tag1000 | exact sc20 | exact sc20o | (refine sc_in ?_; omega) | exact ro_1 | omega | assumption | (simp only [List.map_cons, List.map_nil, List.sum_cons, List.sum_nil, cat_i, cat_r, cat_l, Nat.reduceAdd, Nat.reduceLeDiff]; done) | decide) only [s239_273, tl_s, tl_n, nI_add, pk_mul, i_cl, row_s, u2_row, i_le, i_lt, i_eq, if_true, if_false, Nat.le_refl, Nat.reduceEqDiff, Nat.reduceLeDiff]
  exact next I'' hW'
theorem lw_2 (hW : Wd n I) (h7 : 7 * n + 7 ≤ X.1) (hX : X.1 ≤ 3584) (next : ∀ I', Wd (n + 1) I' → At X 15 239 1392 [some (.ref 1000), some (.ref 0), some (.ref 102), some (.int (nI (7 * n)))] [] G0 I' Q) :
    At X 15 239 278 [some (.ref 1000), some (.ref 0), some (.ref 102), some (.int (nI (7 * n)))] [] G0 I Q := by
  simp (disch := first | exact ok_i | exact ok_r | exact ok_n | exact cat_i | exact cat_r | exact tag1000 | exact sc20 | exact sc20o | (refine sc_in ?_; omega) | exact ro_1 | omega | assumption | (simp only [List.map_cons, List.map_nil, List.sum_cons, List.sum_nil, cat_i, cat_r, cat_l, Nat.reduceAdd, Nat.reduceLeDiff]; done) | decide) only [s239_278, s239_279, s239_280, s239_281, s239_282, s239_283R, s239_284, s239_285, s239_286, s239_287, s239_288R, tl_s, tl_n, nI_add, pk_mul, i_cl, row_s, u2_row, i_le, i_lt, i_eq, if_true, if_false, Nat.le_refl, Nat.reduceEqDiff, Nat.reduceLeDiff, Nat.add_assoc, Nat.reduceAdd]
  rw [s239_289 (by simp only [List.map_cons, List.map_nil, List.sum_cons, List.sum_nil, cat_i, cat_r, cat_l, Nat.reduceAdd, Nat.reduceLeDiff])]
  refine (w_told hW) _ (fun v I' hM => ?_)
  simp (disch := first | exact ok_i | exact ok_r | exact ok_n | exact cat_i | exact cat_r | exact tag1000 | exact sc20 | exact sc20o | (refine sc_in ?_; omega) | exact ro_1 | omega | assumption | (simp only [List.map_cons, List.map_nil, List.sum_cons, List.sum_nil, cat_i, cat_r, cat_l, Nat.reduceAdd, Nat.reduceLeDiff]; done) | decide) only [s239_292, s239_293, s239_294, s239_295, s239_296, s239_297R, s239_298, s239_299, s239_300, s239_301, s239_302R, tl_s, tl_n, nI_add, pk_mul, i_cl, row_s, u2_row, i_le, i_lt, i_eq, if_true, if_false, Nat.le_refl, Nat.reduceEqDiff, Nat.reduceLeDiff, Nat.add_assoc, Nat.reduceAdd]
  rw [s239_303 (by simp only [List.map_cons, List.map_nil, List.sum_cons, List.sum_nil, cat_i, cat_r, cat_l, Nat.reduceAdd, Nat.reduceLeDiff])]
  refine hM _ (fun I'' hW' => ?_)
  simp (disch := first | exact ok_i | exact ok_r | exact ok_n | exact cat_i | exact cat_r | exact tag1000 | exact sc20 | exact sc20o | (refine sc_in ?_; omega) | exact ro_1 | omega | assumption | (simp only [List.map_cons, List.map_nil, List.sum_cons, List.sum_nil, cat_i, cat_r, cat_l, Nat.reduceAdd, Nat.reduceLeDiff]; done) | decide) only [s239_306, tl_s, tl_n, nI_add, pk_mul, i_cl, row_s, u2_row, i_le, i_lt, i_eq, if_true, if_false, Nat.le_refl, Nat.reduceEqDiff, Nat.reduceLeDiff]
  exact next I'' hW'
theorem lw_3 (hW : Wd n I) (h7 : 7 * n + 7 ≤ X.1) (hX : X.1 ≤ 3584) (next : ∀ I', Wd (n + 1) I' → At X 15 239 1392 [some (.ref 1000), some (.ref 0), some (.ref 102), some (.int (nI (7 * n)))] [] G0 I' Q) :
    At X 15 239 311 [some (.ref 1000), some (.ref 0), some (.ref 102), some (.int (nI (7 * n)))] [] G0 I Q := by
  simp (disch := first | exact ok_i | exact ok_r | exact ok_n | exact cat_i | exact cat_r | exact tag1000 | exact sc20 | exact sc20o | (refine sc_in ?_; omega) | exact ro_1 | omega | assumption | (simp only [List.map_cons, List.map_nil, List.sum_cons, List.sum_nil, cat_i, cat_r, cat_l, Nat.reduceAdd, Nat.reduceLeDiff]; done) | decide) only [s239_311, s239_312, s239_313, s239_314, s239_315, s239_316R, s239_317, s239_318, s239_319, s239_320, s239_321R, tl_s, tl_n, nI_add, pk_mul, i_cl, row_s, u2_row, i_le, i_lt, i_eq, if_true, if_false, Nat.le_refl, Nat.reduceEqDiff, Nat.reduceLeDiff, Nat.add_assoc, Nat.reduceAdd]
  rw [s239_322 (by simp only [List.map_cons, List.map_nil, List.sum_cons, List.sum_nil, cat_i, cat_r, cat_l, Nat.reduceAdd, Nat.reduceLeDiff])]
  refine (w_taken hW) _ (fun v I' hM => ?_)
  simp (disch := first | exact ok_i | exact ok_r | exact ok_n | exact cat_i | exact cat_r | exact tag1000 | exact sc20 | exact sc20o | (refine sc_in ?_; omega) | exact ro_1 | omega | assumption | (simp only [List.map_cons, List.map_nil, List.sum_cons, List.sum_nil, cat_i, cat_r, cat_l, Nat.reduceAdd, Nat.reduceLeDiff]; done) | decide) only [s239_325, s239_326, s239_327, s239_328, s239_329, s239_330R, s239_331, s239_332, s239_333, s239_334, s239_335R, tl_s, tl_n, nI_add, pk_mul, i_cl, row_s, u2_row, i_le, i_lt, i_eq, if_true, if_false, Nat.le_refl, Nat.reduceEqDiff, Nat.reduceLeDiff, Nat.add_assoc, Nat.reduceAdd]
  rw [s239_336 (by simp only [List.map_cons, List.map_nil, List.sum_cons, List.sum_nil, cat_i, cat_r, cat_l, Nat.reduceAdd, Nat.reduceLeDiff])]
  refine hM _ (fun I'' hW' => ?_)
  simp (disch := first | exact ok_i | exact ok_r | exact ok_n | exact cat_i | exact cat_r | exact tag1000 | exact sc20 | exact sc20o | (refine sc_in ?_; omega) | exact ro_1 | omega | assumption | (simp only [List.map_cons, List.map_nil, List.sum_cons, List.sum_nil, cat_i, cat_r, cat_l, Nat.reduceAdd, Nat.reduceLeDiff]; done) | decide) only [s239_339, tl_s, tl_n, nI_add, pk_mul, i_cl, row_s, u2_row, i_le, i_lt, i_eq, if_true, if_false, Nat.le_refl, Nat.reduceEqDiff, Nat.reduceLeDiff]
  exact next I'' hW'
theorem lw_4 (hW : Wd n I) (h7 : 7 * n + 7 ≤ X.1) (hX : X.1 ≤ 3584) (next : ∀ I', Wd (n + 1) I' → At X 15 239 1392 [some (.ref 1000), some (.ref 0), some (.ref 102), some (.int (nI (7 * n)))] [] G0 I' Q) :
    At X 15 239 344 [some (.ref 1000), some (.ref 0), some (.ref 102), some (.int (nI (7 * n)))] [] G0 I Q := by
  simp (disch := first | exact ok_i | exact ok_r | exact ok_n | exact cat_i | exact cat_r | exact tag1000 | exact sc20 | exact sc20o | (refine sc_in ?_; omega) | exact ro_1 | omega | assumption | (simp only [List.map_cons, List.map_nil, List.sum_cons, List.sum_nil, cat_i, cat_r, cat_l, Nat.reduceAdd, Nat.reduceLeDiff]; done) | decide) only [s239_344, s239_345, s239_346, s239_347, s239_348, s239_349R, s239_350, s239_351, s239_352, s239_353, s239_354R, s239_355, s239_356, s239_357, s239_358, s239_359R, tl_s, tl_n, nI_add, pk_mul, i_cl, row_s, u2_row, i_le, i_lt, i_eq, if_true, if_false, Nat.le_refl, Nat.reduceEqDiff, Nat.reduceLeDiff, Nat.add_assoc, Nat.reduceAdd]
  rw [s239_360 (by simp only [List.map_cons, List.map_nil, List.sum_cons, List.sum_nil, cat_i, cat_r, cat_l, Nat.reduceAdd, Nat.reduceLeDiff])]
  refine (w_call hW) _ (fun v I' hM => ?_)
  simp (disch := first | exact ok_i | exact ok_r | exact ok_n | exact cat_i | exact cat_r | exact tag1000 | exact sc20 | exact sc20o | (refine sc_in ?_; omega) | exact ro_1 | omega | assumption | (simp only [List.map_cons, List.map_nil, List.sum_cons, List.sum_nil, cat_i, cat_r, cat_l, Nat.reduceAdd, Nat.reduceLeDiff]; done) | decide) only [s239_363, s239_364, s239_365, s239_366, s239_367, s239_368R, s239_369, s239_370, s239_371, s239_372, s239_373R, s239_374, s239_375, s239_376, s239_377, s239_378R, tl_s, tl_n, nI_add, pk_mul, i_cl, row_s, u2_row, i_le, i_lt, i_eq, if_true, if_false, Nat.le_refl, Nat.reduceEqDiff, Nat.reduceLeDiff, Nat.add_assoc, Nat.reduceAdd]
  rw [s239_379 (by simp only [List.map_cons, List.map_nil, List.sum_cons, List.sum_nil, cat_i, cat_r, cat_l, Nat.reduceAdd, Nat.reduceLeDiff])]
  refine hM _ (fun I'' hW' => ?_)
  simp (disch := first | exact ok_i | exact ok_r | exact ok_n | exact cat_i | exact cat_r | exact tag1000 | exact sc20 | exact sc20o | (refine sc_in ?_; omega) | exact ro_1 | omega | assumption | (simp only [List.map_cons, List.map_nil, List.sum_cons, List.sum_nil, cat_i, cat_r, cat_l, Nat.reduceAdd, Nat.reduceLeDiff]; done) | decide) only [s239_382, tl_s, tl_n, nI_add, pk_mul, i_cl, row_s, u2_row, i_le, i_lt, i_eq, if_true, if_false, Nat.le_refl, Nat.reduceEqDiff, Nat.reduceLeDiff]
  exact next I'' hW'
theorem lw_5 (hW : Wd n I) (h7 : 7 * n + 7 ≤ X.1) (hX : X.1 ≤ 3584) (next : ∀ I', Wd (n + 1) I' → At X 15 239 1392 [some (.ref 1000), some (.ref 0), some (.ref 102), some (.int (nI (7 * n)))] [] G0 I' Q) :
    At X 15 239 387 [some (.ref 1000), some (.ref 0), some (.ref 102), some (.int (nI (7 * n)))] [] G0 I Q := by
  simp (disch := first | exact ok_i | exact ok_r | exact ok_n | exact cat_i | exact cat_r | exact tag1000 | exact sc20 | exact sc20o | (refine sc_in ?_; omega) | exact ro_1 | omega | assumption | (simp only [List.map_cons, List.map_nil, List.sum_cons, List.sum_nil, cat_i, cat_r, cat_l, Nat.reduceAdd, Nat.reduceLeDiff]; done) | decide) only [s239_387, s239_388, s239_389, s239_390, s239_391, s239_392R, s239_393, s239_394, s239_395, s239_396, s239_397R, tl_s, tl_n, nI_add, pk_mul, i_cl, row_s, u2_row, i_le, i_lt, i_eq, if_true, if_false, Nat.le_refl, Nat.reduceEqDiff, Nat.reduceLeDiff, Nat.add_assoc, Nat.reduceAdd]
  rw [s239_398 (by simp only [List.map_cons, List.map_nil, List.sum_cons, List.sum_nil, cat_i, cat_r, cat_l, Nat.reduceAdd, Nat.reduceLeDiff])]
  refine (w_group hW) _ (fun v I' hM => ?_)
  simp (disch := first | exact ok_i | exact ok_r | exact ok_n | exact cat_i | exact cat_r | exact tag1000 | exact sc20 | exact sc20o | (refine sc_in ?_; omega) | exact ro_1 | omega | assumption | (simp only [List.map_cons, List.map_nil, List.sum_cons, List.sum_nil, cat_i, cat_r, cat_l, Nat.reduceAdd, Nat.reduceLeDiff]; done) | decide) only [s239_401, s239_402, s239_403, s239_404, s239_405, s239_406R, s239_407, s239_408, s239_409, s239_410, s239_411R, tl_s, tl_n, nI_add, pk_mul, i_cl, row_s, u2_row, i_le, i_lt, i_eq, if_true, if_false, Nat.le_refl, Nat.reduceEqDiff, Nat.reduceLeDiff, Nat.add_assoc, Nat.reduceAdd]
  rw [s239_412 (by simp only [List.map_cons, List.map_nil, List.sum_cons, List.sum_nil, cat_i, cat_r, cat_l, Nat.reduceAdd, Nat.reduceLeDiff])]
  refine hM _ (fun I'' hW' => ?_)
  simp (disch := first | exact ok_i | exact ok_r | exact ok_n | exact cat_i | exact cat_r | exact tag1000 | exact sc20 | exact sc20o | (refine sc_in ?_; omega) | exact ro_1 | omega | assumption | (simp only [List.map_cons, List.map_nil, List.sum_cons, List.sum_nil, cat_i, cat_r, cat_l, Nat.reduceAdd, Nat.reduceLeDiff]; done) | decide) only [s239_415, tl_s, tl_n, nI_add, pk_mul, i_cl, row_s, u2_row, i_le, i_lt, i_eq, if_true, if_false, Nat.le_refl, Nat.reduceEqDiff, Nat.reduceLeDiff]
  exact next I'' hW'
theorem lw_6 (hW : Wd n I) (h7 : 7 * n + 7 ≤ X.1) (hX : X.1 ≤ 3584) (next : ∀ I', Wd (n + 1) I' → At X 15 239 1392 [some (.ref 1000), some (.ref 0), some (.ref 102), some (.int (nI (7 * n)))] [] G0 I' Q) :
    At X 15 239 420 [some (.ref 1000), some (.ref 0), some (.ref 102), some (.int (nI (7 * n)))] [] G0 I Q := by
  simp (disch := first | exact ok_i | exact ok_r | exact ok_n | exact cat_i | exact cat_r | exact tag1000 | exact sc20 | exact sc20o | (refine sc_in ?_; omega) | exact ro_1 | omega | assumption | (simp only [List.map_cons, List.map_nil, List.sum_cons, List.sum_nil, cat_i, cat_r, cat_l, Nat.reduceAdd, Nat.reduceLeDiff]; done) | decide) only [s239_420, s239_421, s239_422, s239_423, s239_424, s239_425R, tl_s, tl_n, nI_add, pk_mul, i_cl, row_s, u2_row, i_le, i_lt, i_eq, if_true, if_false, Nat.le_refl, Nat.reduceEqDiff, Nat.reduceLeDiff, Nat.add_assoc, Nat.reduceAdd]
  rw [s239_426 (by simp only [List.map_cons, List.map_nil, List.sum_cons, List.sum_nil, cat_i, cat_r, cat_l, Nat.reduceAdd, Nat.reduceLeDiff])]
  refine (w_way hW) _ (fun v I' hM => ?_)
  simp (disch := first | exact ok_i | exact ok_r | exact ok_n | exact cat_i | exact cat_r | exact tag1000 | exact sc20 | exact sc20o | (refine sc_in ?_; omega) | exact ro_1 | omega | assumption | (simp only [List.map_cons, List.map_nil, List.sum_cons, List.sum_nil, cat_i, cat_r, cat_l, Nat.reduceAdd, Nat.reduceLeDiff]; done) | decide) only [s239_429, s239_430, s239_431, s239_432, s239_433, s239_434R, tl_s, tl_n, nI_add, pk_mul, i_cl, row_s, u2_row, i_le, i_lt, i_eq, if_true, if_false, Nat.le_refl, Nat.reduceEqDiff, Nat.reduceLeDiff, Nat.add_assoc, Nat.reduceAdd]
  rw [s239_435 (by simp only [List.map_cons, List.map_nil, List.sum_cons, List.sum_nil, cat_i, cat_r, cat_l, Nat.reduceAdd, Nat.reduceLeDiff])]
  refine hM _ (fun I'' hW' => ?_)
  simp (disch := first | exact ok_i | exact ok_r | exact ok_n | exact cat_i | exact cat_r | exact tag1000 | exact sc20 | exact sc20o | (refine sc_in ?_; omega) | exact ro_1 | omega | assumption | (simp only [List.map_cons, List.map_nil, List.sum_cons, List.sum_nil, cat_i, cat_r, cat_l, Nat.reduceAdd, Nat.reduceLeDiff]; done) | decide) only [s239_438, tl_s, tl_n, nI_add, pk_mul, i_cl, row_s, u2_row, i_le, i_lt, i_eq, if_true, if_false, Nat.le_refl, Nat.reduceEqDiff, Nat.reduceLeDiff]
  exact next I'' hW'
theorem lw_7 (hW : Wd n I) (h7 : 7 * n + 7 ≤ X.1) (hX : X.1 ≤ 3584) (next : ∀ I', Wd (n + 1) I' → At X 15 239 1392 [some (.ref 1000), some (.ref 0), some (.ref 102), some (.int (nI (7 * n)))] [] G0 I' Q) :
    At X 15 239 443 [some (.ref 1000), some (.ref 0), some (.ref 102), some (.int (nI (7 * n)))] [] G0 I Q := by
  simp (disch := first | exact ok_i | exact ok_r | exact ok_n | exact cat_i | exact cat_r | exact tag1000 | exact sc20 | exact sc20o | (refine sc_in ?_; omega) | exact ro_1 | omega | assumption | (simp only [List.map_cons, List.map_nil, List.sum_cons, List.sum_nil, cat_i, cat_r, cat_l, Nat.reduceAdd, Nat.reduceLeDiff]; done) | decide) only [s239_443, s239_444, s239_445, s239_446, s239_447, s239_448R, tl_s, tl_n, nI_add, pk_mul, i_cl, row_s, u2_row, i_le, i_lt, i_eq, if_true, if_false, Nat.le_refl, Nat.reduceEqDiff, Nat.reduceLeDiff, Nat.add_assoc, Nat.reduceAdd]
  rw [s239_449 (by simp only [List.map_cons, List.map_nil, List.sum_cons, List.sum_nil, cat_i, cat_r, cat_l, Nat.reduceAdd, Nat.reduceLeDiff])]
  refine (w_gap hW) _ (fun v I' hM => ?_)
  simp (disch := first | exact ok_i | exact ok_r | exact ok_n | exact cat_i | exact cat_r | exact tag1000 | exact sc20 | exact sc20o | (refine sc_in ?_; omega) | exact ro_1 | omega | assumption | (simp only [List.map_cons, List.map_nil, List.sum_cons, List.sum_nil, cat_i, cat_r, cat_l, Nat.reduceAdd, Nat.reduceLeDiff]; done) | decide) only [s239_452, s239_453, s239_454, s239_455, s239_456, s239_457R, tl_s, tl_n, nI_add, pk_mul, i_cl, row_s, u2_row, i_le, i_lt, i_eq, if_true, if_false, Nat.le_refl, Nat.reduceEqDiff, Nat.reduceLeDiff, Nat.add_assoc, Nat.reduceAdd]
  rw [s239_458 (by simp only [List.map_cons, List.map_nil, List.sum_cons, List.sum_nil, cat_i, cat_r, cat_l, Nat.reduceAdd, Nat.reduceLeDiff])]
  refine hM _ (fun I'' hW' => ?_)
  simp (disch := first | exact ok_i | exact ok_r | exact ok_n | exact cat_i | exact cat_r | exact tag1000 | exact sc20 | exact sc20o | (refine sc_in ?_; omega) | exact ro_1 | omega | assumption | (simp only [List.map_cons, List.map_nil, List.sum_cons, List.sum_nil, cat_i, cat_r, cat_l, Nat.reduceAdd, Nat.reduceLeDiff]; done) | decide) only [s239_461, tl_s, tl_n, nI_add, pk_mul, i_cl, row_s, u2_row, i_le, i_lt, i_eq, if_true, if_false, Nat.le_refl, Nat.reduceEqDiff, Nat.reduceLeDiff]
  exact next I'' hW'
theorem lw_8 (hW : Wd n I) (h7 : 7 * n + 7 ≤ X.1) (hX : X.1 ≤ 3584) (next : ∀ I', Wd (n + 1) I' → At X 15 239 1392 [some (.ref 1000), some (.ref 0), some (.ref 102), some (.int (nI (7 * n)))] [] G0 I' Q) :
    At X 15 239 466 [some (.ref 1000), some (.ref 0), some (.ref 102), some (.int (nI (7 * n)))] [] G0 I Q := by
  simp (disch := first | exact ok_i | exact ok_r | exact ok_n | exact cat_i | exact cat_r | exact tag1000 | exact sc20 | exact sc20o | (refine sc_in ?_; omega) | exact ro_1 | omega | assumption | (simp only [List.map_cons, List.map_nil, List.sum_cons, List.sum_nil, cat_i, cat_r, cat_l, Nat.reduceAdd, Nat.reduceLeDiff]; done) | decide) only [s239_466, s239_467, s239_468, s239_469, s239_470, s239_471R, s239_472, s239_473, s239_474, s239_475, s239_476R, tl_s, tl_n, nI_add, pk_mul, i_cl, row_s, u2_row, i_le, i_lt, i_eq, if_true, if_false, Nat.le_refl, Nat.reduceEqDiff, Nat.reduceLeDiff, Nat.add_assoc, Nat.reduceAdd]
  rw [s239_477 (by simp only [List.map_cons, List.map_nil, List.sum_cons, List.sum_nil, cat_i, cat_r, cat_l, Nat.reduceAdd, Nat.reduceLeDiff])]
  refine (w_cost hW) _ (fun v I' hM => ?_)
  simp (disch := first | exact ok_i | exact ok_r | exact ok_n | exact cat_i | exact cat_r | exact tag1000 | exact sc20 | exact sc20o | (refine sc_in ?_; omega) | exact ro_1 | omega | assumption | (simp only [List.map_cons, List.map_nil, List.sum_cons, List.sum_nil, cat_i, cat_r, cat_l, Nat.reduceAdd, Nat.reduceLeDiff]; done) | decide) only [s239_480, s239_481, s239_482, s239_483, s239_484, s239_485R, s239_486, s239_487, s239_488, s239_489, s239_490R, tl_s, tl_n, nI_add, pk_mul, i_cl, row_s, u2_row, i_le, i_lt, i_eq, if_true, if_false, Nat.le_refl, Nat.reduceEqDiff, Nat.reduceLeDiff, Nat.add_assoc, Nat.reduceAdd]
  rw [s239_491 (by simp only [List.map_cons, List.map_nil, List.sum_cons, List.sum_nil, cat_i, cat_r, cat_l, Nat.reduceAdd, Nat.reduceLeDiff])]
  refine hM _ (fun I'' hW' => ?_)
  simp (disch := first | exact ok_i | exact ok_r | exact ok_n | exact cat_i | exact cat_r | exact tag1000 | exact sc20 | exact sc20o | (refine sc_in ?_; omega) | exact ro_1 | omega | assumption | (simp only [List.map_cons, List.map_nil, List.sum_cons, List.sum_nil, cat_i, cat_r, cat_l, Nat.reduceAdd, Nat.reduceLeDiff]; done) | decide) only [s239_494, tl_s, tl_n, nI_add, pk_mul, i_cl, row_s, u2_row, i_le, i_lt, i_eq, if_true, if_false, Nat.le_refl, Nat.reduceEqDiff, Nat.reduceLeDiff]
  exact next I'' hW'
theorem lw_9 (hW : Wd n I) (h7 : 7 * n + 7 ≤ X.1) (hX : X.1 ≤ 3584) (next : ∀ I', Wd (n + 1) I' → At X 15 239 1392 [some (.ref 1000), some (.ref 0), some (.ref 102), some (.int (nI (7 * n)))] [] G0 I' Q) :
    At X 15 239 499 [some (.ref 1000), some (.ref 0), some (.ref 102), some (.int (nI (7 * n)))] [] G0 I Q := by
  simp (disch := first | exact ok_i | exact ok_r | exact ok_n | exact cat_i | exact cat_r | exact tag1000 | exact sc20 | exact sc20o | (refine sc_in ?_; omega) | exact ro_1 | omega | assumption | (simp only [List.map_cons, List.map_nil, List.sum_cons, List.sum_nil, cat_i, cat_r, cat_l, Nat.reduceAdd, Nat.reduceLeDiff]; done) | decide) only [s239_499, s239_500, s239_501, s239_502, s239_503, s239_504R, s239_505, s239_506, s239_507, s239_508, s239_509R, tl_s, tl_n, nI_add, pk_mul, i_cl, row_s, u2_row, i_le, i_lt, i_eq, if_true, if_false, Nat.le_refl, Nat.reduceEqDiff, Nat.reduceLeDiff, Nat.add_assoc, Nat.reduceAdd]
  rw [s239_510 (by simp only [List.map_cons, List.map_nil, List.sum_cons, List.sum_nil, cat_i, cat_r, cat_l, Nat.reduceAdd, Nat.reduceLeDiff])]
  refine (w_give hW) _ (fun v I' hM => ?_)
  simp (disch := first | exact ok_i | exact ok_r | exact ok_n | exact cat_i | exact cat_r | exact tag1000 | exact sc20 | exact sc20o | (refine sc_in ?_; omega) | exact ro_1 | omega | assumption | (simp only [List.map_cons, List.map_nil, List.sum_cons, List.sum_nil, cat_i, cat_r, cat_l, Nat.reduceAdd, Nat.reduceLeDiff]; done) | decide) only [s239_513, s239_514, s239_515, s239_516, s239_517, s239_518R, s239_519, s239_520, s239_521, s239_522, s239_523R, tl_s, tl_n, nI_add, pk_mul, i_cl, row_s, u2_row, i_le, i_lt, i_eq, if_true, if_false, Nat.le_refl, Nat.reduceEqDiff, Nat.reduceLeDiff, Nat.add_assoc, Nat.reduceAdd]
  rw [s239_524 (by simp only [List.map_cons, List.map_nil, List.sum_cons, List.sum_nil, cat_i, cat_r, cat_l, Nat.reduceAdd, Nat.reduceLeDiff])]
  refine hM _ (fun I'' hW' => ?_)
  simp (disch := first | exact ok_i | exact ok_r | exact ok_n | exact cat_i | exact cat_r | exact tag1000 | exact sc20 | exact sc20o | (refine sc_in ?_; omega) | exact ro_1 | omega | assumption | (simp only [List.map_cons, List.map_nil, List.sum_cons, List.sum_nil, cat_i, cat_r, cat_l, Nat.reduceAdd, Nat.reduceLeDiff]; done) | decide) only [s239_527, tl_s, tl_n, nI_add, pk_mul, i_cl, row_s, u2_row, i_le, i_lt, i_eq, if_true, if_false, Nat.le_refl, Nat.reduceEqDiff, Nat.reduceLeDiff]
  exact next I'' hW'
theorem lw_10 (hW : Wd n I) (h7 : 7 * n + 7 ≤ X.1) (hX : X.1 ≤ 3584) (next : ∀ I', Wd (n + 1) I' → At X 15 239 1392 [some (.ref 1000), some (.ref 0), some (.ref 102), some (.int (nI (7 * n)))] [] G0 I' Q) :
    At X 15 239 532 [some (.ref 1000), some (.ref 0), some (.ref 102), some (.int (nI (7 * n)))] [] G0 I Q := by
  simp (disch := first | exact ok_i | exact ok_r | exact ok_n | exact cat_i | exact cat_r | exact tag1000 | exact sc20 | exact sc20o | (refine sc_in ?_; omega) | exact ro_1 | omega | assumption | (simp only [List.map_cons, List.map_nil, List.sum_cons, List.sum_nil, cat_i, cat_r, cat_l, Nat.reduceAdd, Nat.reduceLeDiff]; done) | decide) only [s239_532, tl_s, tl_n, nI_add, pk_mul, i_cl, row_s, u2_row, i_le, i_lt, i_eq, if_true, if_false, Nat.le_refl, Nat.reduceEqDiff, Nat.reduceLeDiff, Nat.add_assoc, Nat.reduceAdd]
  rw [s239_533 (by simp only [List.map_cons, List.map_nil, List.sum_cons, List.sum_nil, cat_i, cat_r, cat_l, Nat.reduceAdd, Nat.reduceLeDiff])]
  refine (w_regive hW) _ (fun v I' hM => ?_)
  simp (disch := first | exact ok_i | exact ok_r | exact ok_n | exact cat_i | exact cat_r | exact tag1000 | exact sc20 | exact sc20o | (refine sc_in ?_; omega) | exact ro_1 | omega | assumption | (simp only [List.map_cons, List.map_nil, List.sum_cons, List.sum_nil, cat_i, cat_r, cat_l, Nat.reduceAdd, Nat.reduceLeDiff]; done) | decide) only [s239_536, tl_s, tl_n, nI_add, pk_mul, i_cl, row_s, u2_row, i_le, i_lt, i_eq, if_true, if_false, Nat.le_refl, Nat.reduceEqDiff, Nat.reduceLeDiff, Nat.add_assoc, Nat.reduceAdd]
  rw [s239_537 (by simp only [List.map_cons, List.map_nil, List.sum_cons, List.sum_nil, cat_i, cat_r, cat_l, Nat.reduceAdd, Nat.reduceLeDiff])]
  refine hM _ (fun I'' hW' => ?_)
  simp (disch := first | exact ok_i | exact ok_r | exact ok_n | exact cat_i | exact cat_r | exact tag1000 | exact sc20 | exact sc20o | (refine sc_in ?_; omega) | exact ro_1 | omega | assumption | (simp only [List.map_cons, List.map_nil, List.sum_cons, List.sum_nil, cat_i, cat_r, cat_l, Nat.reduceAdd, Nat.reduceLeDiff]; done) | decide) only [s239_540, tl_s, tl_n, nI_add, pk_mul, i_cl, row_s, u2_row, i_le, i_lt, i_eq, if_true, if_false, Nat.le_refl, Nat.reduceEqDiff, Nat.reduceLeDiff]
  exact next I'' hW'
theorem lw_11 (hW : Wd n I) (h7 : 7 * n + 7 ≤ X.1) (hX : X.1 ≤ 3584) (next : ∀ I', Wd (n + 1) I' → At X 15 239 1392 [some (.ref 1000), some (.ref 0), some (.ref 102), some (.int (nI (7 * n)))] [] G0 I' Q) :
    At X 15 239 545 [some (.ref 1000), some (.ref 0), some (.ref 102), some (.int (nI (7 * n)))] [] G0 I Q := by
  simp (disch := first | exact ok_i | exact ok_r | exact ok_n | exact cat_i | exact cat_r | exact tag1000 | exact sc20 | exact sc20o | (refine sc_in ?_; omega) | exact ro_1 | omega | assumption | (simp only [List.map_cons, List.map_nil, List.sum_cons, List.sum_nil, cat_i, cat_r, cat_l, Nat.reduceAdd, Nat.reduceLeDiff]; done) | decide) only [s239_545, tl_s, tl_n, nI_add, pk_mul, i_cl, row_s, u2_row, i_le, i_lt, i_eq, if_true, if_false, Nat.le_refl, Nat.reduceEqDiff, Nat.reduceLeDiff, Nat.add_assoc, Nat.reduceAdd]
  rw [s239_546 (by simp only [List.map_cons, List.map_nil, List.sum_cons, List.sum_nil, cat_i, cat_r, cat_l, Nat.reduceAdd, Nat.reduceLeDiff])]
  refine (w_tick hW) _ (fun v I' hM => ?_)
  simp (disch := first | exact ok_i | exact ok_r | exact ok_n | exact cat_i | exact cat_r | exact tag1000 | exact sc20 | exact sc20o | (refine sc_in ?_; omega) | exact ro_1 | omega | assumption | (simp only [List.map_cons, List.map_nil, List.sum_cons, List.sum_nil, cat_i, cat_r, cat_l, Nat.reduceAdd, Nat.reduceLeDiff]; done) | decide) only [s239_549, tl_s, tl_n, nI_add, pk_mul, i_cl, row_s, u2_row, i_le, i_lt, i_eq, if_true, if_false, Nat.le_refl, Nat.reduceEqDiff, Nat.reduceLeDiff, Nat.add_assoc, Nat.reduceAdd]
  rw [s239_550 (by simp only [List.map_cons, List.map_nil, List.sum_cons, List.sum_nil, cat_i, cat_r, cat_l, Nat.reduceAdd, Nat.reduceLeDiff])]
  refine hM _ (fun I'' hW' => ?_)
  simp (disch := first | exact ok_i | exact ok_r | exact ok_n | exact cat_i | exact cat_r | exact tag1000 | exact sc20 | exact sc20o | (refine sc_in ?_; omega) | exact ro_1 | omega | assumption | (simp only [List.map_cons, List.map_nil, List.sum_cons, List.sum_nil, cat_i, cat_r, cat_l, Nat.reduceAdd, Nat.reduceLeDiff]; done) | decide) only [s239_553, tl_s, tl_n, nI_add, pk_mul, i_cl, row_s, u2_row, i_le, i_lt, i_eq, if_true, if_false, Nat.le_refl, Nat.reduceEqDiff, Nat.reduceLeDiff]
  exact next I'' hW'
theorem lw_12 (hW : Wd n I) (h7 : 7 * n + 7 ≤ X.1) (hX : X.1 ≤ 3584) (next : ∀ I', Wd (n + 1) I' → At X 15 239 1392 [some (.ref 1000), some (.ref 0), some (.ref 102), some (.int (nI (7 * n)))] [] G0 I' Q) :
    At X 15 239 558 [some (.ref 1000), some (.ref 0), some (.ref 102), some (.int (nI (7 * n)))] [] G0 I Q := by
  simp (disch := first | exact ok_i | exact ok_r | exact ok_n | exact cat_i | exact cat_r | exact tag1000 | exact sc20 | exact sc20o | (refine sc_in ?_; omega) | exact ro_1 | omega | assumption | (simp only [List.map_cons, List.map_nil, List.sum_cons, List.sum_nil, cat_i, cat_r, cat_l, Nat.reduceAdd, Nat.reduceLeDiff]; done) | decide) only [s239_558, s239_559, s239_560, s239_561, s239_562, s239_563R, tl_s, tl_n, nI_add, pk_mul, i_cl, row_s, u2_row, i_le, i_lt, i_eq, if_true, if_false, Nat.le_refl, Nat.reduceEqDiff, Nat.reduceLeDiff, Nat.add_assoc, Nat.reduceAdd]
  rw [s239_564 (by simp only [List.map_cons, List.map_nil, List.sum_cons, List.sum_nil, cat_i, cat_r, cat_l, Nat.reduceAdd, Nat.reduceLeDiff])]
  refine (w_ticks hW) _ (fun v I' hM => ?_)
  simp (disch := first | exact ok_i | exact ok_r | exact ok_n | exact cat_i | exact cat_r | exact tag1000 | exact sc20 | exact sc20o | (refine sc_in ?_; omega) | exact ro_1 | omega | assumption | (simp only [List.map_cons, List.map_nil, List.sum_cons, List.sum_nil, cat_i, cat_r, cat_l, Nat.reduceAdd, Nat.reduceLeDiff]; done) | decide) only [s239_567, s239_568, s239_569, s239_570, s239_571, s239_572R, tl_s, tl_n, nI_add, pk_mul, i_cl, row_s, u2_row, i_le, i_lt, i_eq, if_true, if_false, Nat.le_refl, Nat.reduceEqDiff, Nat.reduceLeDiff, Nat.add_assoc, Nat.reduceAdd]
  rw [s239_573 (by simp only [List.map_cons, List.map_nil, List.sum_cons, List.sum_nil, cat_i, cat_r, cat_l, Nat.reduceAdd, Nat.reduceLeDiff])]
  refine hM _ (fun I'' hW' => ?_)
  simp (disch := first | exact ok_i | exact ok_r | exact ok_n | exact cat_i | exact cat_r | exact tag1000 | exact sc20 | exact sc20o | (refine sc_in ?_; omega) | exact ro_1 | omega | assumption | (simp only [List.map_cons, List.map_nil, List.sum_cons, List.sum_nil, cat_i, cat_r, cat_l, Nat.reduceAdd, Nat.reduceLeDiff]; done) | decide) only [s239_576, tl_s, tl_n, nI_add, pk_mul, i_cl, row_s, u2_row, i_le, i_lt, i_eq, if_true, if_false, Nat.le_refl, Nat.reduceEqDiff, Nat.reduceLeDiff]
  exact next I'' hW'
theorem lw_13 (hW : Wd n I) (h7 : 7 * n + 7 ≤ X.1) (hX : X.1 ≤ 3584) (next : ∀ I', Wd (n + 1) I' → At X 15 239 1392 [some (.ref 1000), some (.ref 0), some (.ref 102), some (.int (nI (7 * n)))] [] G0 I' Q) :
    At X 15 239 581 [some (.ref 1000), some (.ref 0), some (.ref 102), some (.int (nI (7 * n)))] [] G0 I Q := by
  simp (disch := first | exact ok_i | exact ok_r | exact ok_n | exact cat_i | exact cat_r | exact tag1000 | exact sc20 | exact sc20o | (refine sc_in ?_; omega) | exact ro_1 | omega | assumption | (simp only [List.map_cons, List.map_nil, List.sum_cons, List.sum_nil, cat_i, cat_r, cat_l, Nat.reduceAdd, Nat.reduceLeDiff]; done) | decide) only [s239_581, tl_s, tl_n, nI_add, pk_mul, i_cl, row_s, u2_row, i_le, i_lt, i_eq, if_true, if_false, Nat.le_refl, Nat.reduceEqDiff, Nat.reduceLeDiff, Nat.add_assoc, Nat.reduceAdd]
  rw [s239_582 (by simp only [List.map_cons, List.map_nil, List.sum_cons, List.sum_nil, cat_i, cat_r, cat_l, Nat.reduceAdd, Nat.reduceLeDiff])]
  refine (w_park hW) _ (fun v I' hM => ?_)
  simp (disch := first | exact ok_i | exact ok_r | exact ok_n | exact cat_i | exact cat_r | exact tag1000 | exact sc20 | exact sc20o | (refine sc_in ?_; omega) | exact ro_1 | omega | assumption | (simp only [List.map_cons, List.map_nil, List.sum_cons, List.sum_nil, cat_i, cat_r, cat_l, Nat.reduceAdd, Nat.reduceLeDiff]; done) | decide) only [s239_585, tl_s, tl_n, nI_add, pk_mul, i_cl, row_s, u2_row, i_le, i_lt, i_eq, if_true, if_false, Nat.le_refl, Nat.reduceEqDiff, Nat.reduceLeDiff, Nat.add_assoc, Nat.reduceAdd]
  rw [s239_586 (by simp only [List.map_cons, List.map_nil, List.sum_cons, List.sum_nil, cat_i, cat_r, cat_l, Nat.reduceAdd, Nat.reduceLeDiff])]
  refine hM _ (fun I'' hW' => ?_)
  simp (disch := first | exact ok_i | exact ok_r | exact ok_n | exact cat_i | exact cat_r | exact tag1000 | exact sc20 | exact sc20o | (refine sc_in ?_; omega) | exact ro_1 | omega | assumption | (simp only [List.map_cons, List.map_nil, List.sum_cons, List.sum_nil, cat_i, cat_r, cat_l, Nat.reduceAdd, Nat.reduceLeDiff]; done) | decide) only [s239_589, tl_s, tl_n, nI_add, pk_mul, i_cl, row_s, u2_row, i_le, i_lt, i_eq, if_true, if_false, Nat.le_refl, Nat.reduceEqDiff, Nat.reduceLeDiff]
  exact next I'' hW'
theorem lw_14 (hW : Wd n I) (h7 : 7 * n + 7 ≤ X.1) (hX : X.1 ≤ 3584) (next : ∀ I', Wd (n + 1) I' → At X 15 239 1392 [some (.ref 1000), some (.ref 0), some (.ref 102), some (.int (nI (7 * n)))] [] G0 I' Q) :
    At X 15 239 594 [some (.ref 1000), some (.ref 0), some (.ref 102), some (.int (nI (7 * n)))] [] G0 I Q := by
  simp (disch := first | exact ok_i | exact ok_r | exact ok_n | exact cat_i | exact cat_r | exact tag1000 | exact sc20 | exact sc20o | (refine sc_in ?_; omega) | exact ro_1 | omega | assumption | (simp only [List.map_cons, List.map_nil, List.sum_cons, List.sum_nil, cat_i, cat_r, cat_l, Nat.reduceAdd, Nat.reduceLeDiff]; done) | decide) only [s239_594, s239_595, s239_596, s239_597, s239_598, s239_599R, s239_600, s239_601, s239_602, s239_603, s239_604R, tl_s, tl_n, nI_add, pk_mul, i_cl, row_s, u2_row, i_le, i_lt, i_eq, if_true, if_false, Nat.le_refl, Nat.reduceEqDiff, Nat.reduceLeDiff, Nat.add_assoc, Nat.reduceAdd]
  rw [s239_605 (by simp only [List.map_cons, List.map_nil, List.sum_cons, List.sum_nil, cat_i, cat_r, cat_l, Nat.reduceAdd, Nat.reduceLeDiff])]
  refine (w_demand hW) _ (fun v I' hM => ?_)
  simp (disch := first | exact ok_i | exact ok_r | exact ok_n | exact cat_i | exact cat_r | exact tag1000 | exact sc20 | exact sc20o | (refine sc_in ?_; omega) | exact ro_1 | omega | assumption | (simp only [List.map_cons, List.map_nil, List.sum_cons, List.sum_nil, cat_i, cat_r, cat_l, Nat.reduceAdd, Nat.reduceLeDiff]; done) | decide) only [s239_608, s239_609, s239_610, s239_611, s239_612, s239_613R, s239_614, s239_615, s239_616, s239_617, s239_618R, tl_s, tl_n, nI_add, pk_mul, i_cl, row_s, u2_row, i_le, i_lt, i_eq, if_true, if_false, Nat.le_refl, Nat.reduceEqDiff, Nat.reduceLeDiff, Nat.add_assoc, Nat.reduceAdd]
  rw [s239_619 (by simp only [List.map_cons, List.map_nil, List.sum_cons, List.sum_nil, cat_i, cat_r, cat_l, Nat.reduceAdd, Nat.reduceLeDiff])]
  refine hM _ (fun I'' hW' => ?_)
  simp (disch := first | exact ok_i | exact ok_r | exact ok_n | exact cat_i | exact cat_r | exact tag1000 | exact sc20 | exact sc20o | (refine sc_in ?_; omega) | exact ro_1 | omega | assumption | (simp only [List.map_cons, List.map_nil, List.sum_cons, List.sum_nil, cat_i, cat_r, cat_l, Nat.reduceAdd, Nat.reduceLeDiff]; done) | decide) only [s239_622, tl_s, tl_n, nI_add, pk_mul, i_cl, row_s, u2_row, i_le, i_lt, i_eq, if_true, if_false, Nat.le_refl, Nat.reduceEqDiff, Nat.reduceLeDiff]
  exact next I'' hW'
theorem lw_15 (hW : Wd n I) (h7 : 7 * n + 7 ≤ X.1) (hX : X.1 ≤ 3584) (next : ∀ I', Wd (n + 1) I' → At X 15 239 1392 [some (.ref 1000), some (.ref 0), some (.ref 102), some (.int (nI (7 * n)))] [] G0 I' Q) :
    At X 15 239 627 [some (.ref 1000), some (.ref 0), some (.ref 102), some (.int (nI (7 * n)))] [] G0 I Q := by
  simp (disch := first | exact ok_i | exact ok_r | exact ok_n | exact cat_i | exact cat_r | exact tag1000 | exact sc20 | exact sc20o | (refine sc_in ?_; omega) | exact ro_1 | omega | assumption | (simp only [List.map_cons, List.map_nil, List.sum_cons, List.sum_nil, cat_i, cat_r, cat_l, Nat.reduceAdd, Nat.reduceLeDiff]; done) | decide) only [s239_627, s239_628, s239_629, s239_630, s239_631, s239_632R, s239_633, s239_634, s239_635, s239_636, s239_637R, tl_s, tl_n, nI_add, pk_mul, i_cl, row_s, u2_row, i_le, i_lt, i_eq, if_true, if_false, Nat.le_refl, Nat.reduceEqDiff, Nat.reduceLeDiff, Nat.add_assoc, Nat.reduceAdd]
  rw [s239_638 (by simp only [List.map_cons, List.map_nil, List.sum_cons, List.sum_nil, cat_i, cat_r, cat_l, Nat.reduceAdd, Nat.reduceLeDiff])]
  refine (w_sweep hW) _ (fun v I' hM => ?_)
  simp (disch := first | exact ok_i | exact ok_r | exact ok_n | exact cat_i | exact cat_r | exact tag1000 | exact sc20 | exact sc20o | (refine sc_in ?_; omega) | exact ro_1 | omega | assumption | (simp only [List.map_cons, List.map_nil, List.sum_cons, List.sum_nil, cat_i, cat_r, cat_l, Nat.reduceAdd, Nat.reduceLeDiff]; done) | decide) only [s239_641, s239_642, s239_643, s239_644, s239_645, s239_646R, s239_647, s239_648, s239_649, s239_650, s239_651R, tl_s, tl_n, nI_add, pk_mul, i_cl, row_s, u2_row, i_le, i_lt, i_eq, if_true, if_false, Nat.le_refl, Nat.reduceEqDiff, Nat.reduceLeDiff, Nat.add_assoc, Nat.reduceAdd]
  rw [s239_652 (by simp only [List.map_cons, List.map_nil, List.sum_cons, List.sum_nil, cat_i, cat_r, cat_l, Nat.reduceAdd, Nat.reduceLeDiff])]
  refine hM _ (fun I'' hW' => ?_)
  simp (disch := first | exact ok_i | exact ok_r | exact ok_n | exact cat_i | exact cat_r | exact tag1000 | exact sc20 | exact sc20o | (refine sc_in ?_; omega) | exact ro_1 | omega | assumption | (simp only [List.map_cons, List.map_nil, List.sum_cons, List.sum_nil, cat_i, cat_r, cat_l, Nat.reduceAdd, Nat.reduceLeDiff]; done) | decide) only [s239_655, tl_s, tl_n, nI_add, pk_mul, i_cl, row_s, u2_row, i_le, i_lt, i_eq, if_true, if_false, Nat.le_refl, Nat.reduceEqDiff, Nat.reduceLeDiff]
  exact next I'' hW'
theorem lw_16 (hW : Wd n I) (h7 : 7 * n + 7 ≤ X.1) (hX : X.1 ≤ 3584) (next : ∀ I', Wd (n + 1) I' → At X 15 239 1392 [some (.ref 1000), some (.ref 0), some (.ref 102), some (.int (nI (7 * n)))] [] G0 I' Q) :
    At X 15 239 660 [some (.ref 1000), some (.ref 0), some (.ref 102), some (.int (nI (7 * n)))] [] G0 I Q := by
  simp (disch := first | exact ok_i | exact ok_r | exact ok_n | exact cat_i | exact cat_r | exact tag1000 | exact sc20 | exact sc20o | (refine sc_in ?_; omega) | exact ro_1 | omega | assumption | (simp only [List.map_cons, List.map_nil, List.sum_cons, List.sum_nil, cat_i, cat_r, cat_l, Nat.reduceAdd, Nat.reduceLeDiff]; done) | decide) only [s239_660, s239_661, s239_662, s239_663, s239_664, s239_665R, s239_666, s239_667, s239_668, s239_669, s239_670R, s239_671, s239_672, s239_673, s239_674, s239_675R, tl_s, tl_n, nI_add, pk_mul, i_cl, row_s, u2_row, i_le, i_lt, i_eq, if_true, if_false, Nat.le_refl, Nat.reduceEqDiff, Nat.reduceLeDiff, Nat.add_assoc, Nat.reduceAdd]
  rw [s239_676 (by simp only [List.map_cons, List.map_nil, List.sum_cons, List.sum_nil, cat_i, cat_r, cat_l, Nat.reduceAdd, Nat.reduceLeDiff])]
  refine (w_near hW) _ (fun v I' hM => ?_)
  simp (disch := first | exact ok_i | exact ok_r | exact ok_n | exact cat_i | exact cat_r | exact tag1000 | exact sc20 | exact sc20o | (refine sc_in ?_; omega) | exact ro_1 | omega | assumption | (simp only [List.map_cons, List.map_nil, List.sum_cons, List.sum_nil, cat_i, cat_r, cat_l, Nat.reduceAdd, Nat.reduceLeDiff]; done) | decide) only [s239_679, s239_680, s239_681, s239_682, s239_683, s239_684R, s239_685, s239_686, s239_687, s239_688, s239_689R, s239_690, s239_691, s239_692, s239_693, s239_694R, tl_s, tl_n, nI_add, pk_mul, i_cl, row_s, u2_row, i_le, i_lt, i_eq, if_true, if_false, Nat.le_refl, Nat.reduceEqDiff, Nat.reduceLeDiff, Nat.add_assoc, Nat.reduceAdd]
  rw [s239_695 (by simp only [List.map_cons, List.map_nil, List.sum_cons, List.sum_nil, cat_i, cat_r, cat_l, Nat.reduceAdd, Nat.reduceLeDiff])]
  refine hM _ (fun I'' hW' => ?_)
  simp (disch := first | exact ok_i | exact ok_r | exact ok_n | exact cat_i | exact cat_r | exact tag1000 | exact sc20 | exact sc20o | (refine sc_in ?_; omega) | exact ro_1 | omega | assumption | (simp only [List.map_cons, List.map_nil, List.sum_cons, List.sum_nil, cat_i, cat_r, cat_l, Nat.reduceAdd, Nat.reduceLeDiff]; done) | decide) only [s239_698, tl_s, tl_n, nI_add, pk_mul, i_cl, row_s, u2_row, i_le, i_lt, i_eq, if_true, if_false, Nat.le_refl, Nat.reduceEqDiff, Nat.reduceLeDiff]
  exact next I'' hW'
theorem lw_17 (hW : Wd n I) (h7 : 7 * n + 7 ≤ X.1) (hX : X.1 ≤ 3584) (next : ∀ I', Wd (n + 1) I' → At X 15 239 1392 [some (.ref 1000), some (.ref 0), some (.ref 102), some (.int (nI (7 * n)))] [] G0 I' Q) :
    At X 15 239 703 [some (.ref 1000), some (.ref 0), some (.ref 102), some (.int (nI (7 * n)))] [] G0 I Q := by
  simp (disch := first | exact ok_i | exact ok_r | exact ok_n | exact cat_i | exact cat_r | exact tag1000 | exact sc20 | exact sc20o | (refine sc_in ?_; omega) | exact ro_1 | omega | assumption | (simp only [List.map_cons, List.map_nil, List.sum_cons, List.sum_nil, cat_i, cat_r, cat_l, Nat.reduceAdd, Nat.reduceLeDiff]; done) | decide) only [s239_703, s239_704, s239_705, s239_706, s239_707, s239_708R, tl_s, tl_n, nI_add, pk_mul, i_cl, row_s, u2_row, i_le, i_lt, i_eq, if_true, if_false, Nat.le_refl, Nat.reduceEqDiff, Nat.reduceLeDiff, Nat.add_assoc, Nat.reduceAdd]
  rw [s239_709 (by simp only [List.map_cons, List.map_nil, List.sum_cons, List.sum_nil, cat_i, cat_r, cat_l, Nat.reduceAdd, Nat.reduceLeDiff])]
  refine (w_oldest hW (by omega)) _ (fun v I' hM => ?_)
  simp (disch := first | exact ok_i | exact ok_r | exact ok_n | exact cat_i | exact cat_r | exact tag1000 | exact sc20 | exact sc20o | (refine sc_in ?_; omega) | exact ro_1 | omega | assumption | (simp only [List.map_cons, List.map_nil, List.sum_cons, List.sum_nil, cat_i, cat_r, cat_l, Nat.reduceAdd, Nat.reduceLeDiff]; done) | decide) only [s239_712, s239_713, s239_714, s239_715, s239_716, s239_717R, tl_s, tl_n, nI_add, pk_mul, i_cl, row_s, u2_row, i_le, i_lt, i_eq, if_true, if_false, Nat.le_refl, Nat.reduceEqDiff, Nat.reduceLeDiff, Nat.add_assoc, Nat.reduceAdd]
  rw [s239_718 (by simp only [List.map_cons, List.map_nil, List.sum_cons, List.sum_nil, cat_i, cat_r, cat_l, Nat.reduceAdd, Nat.reduceLeDiff])]
  refine hM _ (fun I'' hW' => ?_)
  simp (disch := first | exact ok_i | exact ok_r | exact ok_n | exact cat_i | exact cat_r | exact tag1000 | exact sc20 | exact sc20o | (refine sc_in ?_; omega) | exact ro_1 | omega | assumption | (simp only [List.map_cons, List.map_nil, List.sum_cons, List.sum_nil, cat_i, cat_r, cat_l, Nat.reduceAdd, Nat.reduceLeDiff]; done) | decide) only [s239_721, tl_s, tl_n, nI_add, pk_mul, i_cl, row_s, u2_row, i_le, i_lt, i_eq, if_true, if_false, Nat.le_refl, Nat.reduceEqDiff, Nat.reduceLeDiff]
  exact next I'' hW'
theorem lw_18 (hW : Wd n I) (h7 : 7 * n + 7 ≤ X.1) (hX : X.1 ≤ 3584) (next : ∀ I', Wd (n + 1) I' → At X 15 239 1392 [some (.ref 1000), some (.ref 0), some (.ref 102), some (.int (nI (7 * n)))] [] G0 I' Q) :
    At X 15 239 726 [some (.ref 1000), some (.ref 0), some (.ref 102), some (.int (nI (7 * n)))] [] G0 I Q := by
  simp (disch := first | exact ok_i | exact ok_r | exact ok_n | exact cat_i | exact cat_r | exact tag1000 | exact sc20 | exact sc20o | (refine sc_in ?_; omega) | exact ro_1 | omega | assumption | (simp only [List.map_cons, List.map_nil, List.sum_cons, List.sum_nil, cat_i, cat_r, cat_l, Nat.reduceAdd, Nat.reduceLeDiff]; done) | decide) only [s239_726, s239_727, s239_728, s239_729, s239_730, s239_731R, tl_s, tl_n, nI_add, pk_mul, i_cl, row_s, u2_row, i_le, i_lt, i_eq, if_true, if_false, Nat.le_refl, Nat.reduceEqDiff, Nat.reduceLeDiff, Nat.add_assoc, Nat.reduceAdd]
  rw [s239_732 (by simp only [List.map_cons, List.map_nil, List.sum_cons, List.sum_nil, cat_i, cat_r, cat_l, Nat.reduceAdd, Nat.reduceLeDiff])]
  refine (w_mean hW (by omega)) _ (fun v I' hM => ?_)
  simp (disch := first | exact ok_i | exact ok_r | exact ok_n | exact cat_i | exact cat_r | exact tag1000 | exact sc20 | exact sc20o | (refine sc_in ?_; omega) | exact ro_1 | omega | assumption | (simp only [List.map_cons, List.map_nil, List.sum_cons, List.sum_nil, cat_i, cat_r, cat_l, Nat.reduceAdd, Nat.reduceLeDiff]; done) | decide) only [s239_735, s239_736, s239_737, s239_738, s239_739, s239_740R, tl_s, tl_n, nI_add, pk_mul, i_cl, row_s, u2_row, i_le, i_lt, i_eq, if_true, if_false, Nat.le_refl, Nat.reduceEqDiff, Nat.reduceLeDiff, Nat.add_assoc, Nat.reduceAdd]
  rw [s239_741 (by simp only [List.map_cons, List.map_nil, List.sum_cons, List.sum_nil, cat_i, cat_r, cat_l, Nat.reduceAdd, Nat.reduceLeDiff])]
  refine hM _ (fun I'' hW' => ?_)
  simp (disch := first | exact ok_i | exact ok_r | exact ok_n | exact cat_i | exact cat_r | exact tag1000 | exact sc20 | exact sc20o | (refine sc_in ?_; omega) | exact ro_1 | omega | assumption | (simp only [List.map_cons, List.map_nil, List.sum_cons, List.sum_nil, cat_i, cat_r, cat_l, Nat.reduceAdd, Nat.reduceLeDiff]; done) | decide) only [s239_744, tl_s, tl_n, nI_add, pk_mul, i_cl, row_s, u2_row, i_le, i_lt, i_eq, if_true, if_false, Nat.le_refl, Nat.reduceEqDiff, Nat.reduceLeDiff]
  exact next I'' hW'
theorem lw_19 (hW : Wd n I) (h7 : 7 * n + 7 ≤ X.1) (hX : X.1 ≤ 3584) (next : ∀ I', Wd (n + 1) I' → At X 15 239 1392 [some (.ref 1000), some (.ref 0), some (.ref 102), some (.int (nI (7 * n)))] [] G0 I' Q) :
    At X 15 239 749 [some (.ref 1000), some (.ref 0), some (.ref 102), some (.int (nI (7 * n)))] [] G0 I Q := by
  simp (disch := first | exact ok_i | exact ok_r | exact ok_n | exact cat_i | exact cat_r | exact tag1000 | exact sc20 | exact sc20o | (refine sc_in ?_; omega) | exact ro_1 | omega | assumption | (simp only [List.map_cons, List.map_nil, List.sum_cons, List.sum_nil, cat_i, cat_r, cat_l, Nat.reduceAdd, Nat.reduceLeDiff]; done) | decide) only [s239_749, s239_750, s239_751, s239_752, s239_753, s239_754R, tl_s, tl_n, nI_add, pk_mul, i_cl, row_s, u2_row, i_le, i_lt, i_eq, if_true, if_false, Nat.le_refl, Nat.reduceEqDiff, Nat.reduceLeDiff, Nat.add_assoc, Nat.reduceAdd]
  rw [s239_755 (by simp only [List.map_cons, List.map_nil, List.sum_cons, List.sum_nil, cat_i, cat_r, cat_l, Nat.reduceAdd, Nat.reduceLeDiff])]
  refine (w_done hW (by omega)) _ (fun v I' hM => ?_)
  simp (disch := first | exact ok_i | exact ok_r | exact ok_n | exact cat_i | exact cat_r | exact tag1000 | exact sc20 | exact sc20o | (refine sc_in ?_; omega) | exact ro_1 | omega | assumption | (simp only [List.map_cons, List.map_nil, List.sum_cons, List.sum_nil, cat_i, cat_r, cat_l, Nat.reduceAdd, Nat.reduceLeDiff]; done) | decide) only [s239_758, s239_759, s239_760, s239_761, s239_762, s239_763R, tl_s, tl_n, nI_add, pk_mul, i_cl, row_s, u2_row, i_le, i_lt, i_eq, if_true, if_false, Nat.le_refl, Nat.reduceEqDiff, Nat.reduceLeDiff, Nat.add_assoc, Nat.reduceAdd]
  rw [s239_764 (by simp only [List.map_cons, List.map_nil, List.sum_cons, List.sum_nil, cat_i, cat_r, cat_l, Nat.reduceAdd, Nat.reduceLeDiff])]
  refine hM _ (fun I'' hW' => ?_)
  simp (disch := first | exact ok_i | exact ok_r | exact ok_n | exact cat_i | exact cat_r | exact tag1000 | exact sc20 | exact sc20o | (refine sc_in ?_; omega) | exact ro_1 | omega | assumption | (simp only [List.map_cons, List.map_nil, List.sum_cons, List.sum_nil, cat_i, cat_r, cat_l, Nat.reduceAdd, Nat.reduceLeDiff]; done) | decide) only [s239_767, tl_s, tl_n, nI_add, pk_mul, i_cl, row_s, u2_row, i_le, i_lt, i_eq, if_true, if_false, Nat.le_refl, Nat.reduceEqDiff, Nat.reduceLeDiff]
  exact next I'' hW'
theorem lw_20 (hW : Wd n I) (h7 : 7 * n + 7 ≤ X.1) (hX : X.1 ≤ 3584) (next : ∀ I', Wd (n + 1) I' → At X 15 239 1392 [some (.ref 1000), some (.ref 0), some (.ref 102), some (.int (nI (7 * n)))] [] G0 I' Q) :
    At X 15 239 772 [some (.ref 1000), some (.ref 0), some (.ref 102), some (.int (nI (7 * n)))] [] G0 I Q := by
  simp (disch := first | exact ok_i | exact ok_r | exact ok_n | exact cat_i | exact cat_r | exact tag1000 | exact sc20 | exact sc20o | (refine sc_in ?_; omega) | exact ro_1 | omega | assumption | (simp only [List.map_cons, List.map_nil, List.sum_cons, List.sum_nil, cat_i, cat_r, cat_l, Nat.reduceAdd, Nat.reduceLeDiff]; done) | decide) only [s239_772, s239_773, s239_774, s239_775, s239_776, s239_777R, s239_778, s239_779, s239_780, s239_781, s239_782R, s239_783, s239_784, s239_785, s239_786, s239_787R, tl_s, tl_n, nI_add, pk_mul, i_cl, row_s, u2_row, i_le, i_lt, i_eq, if_true, if_false, Nat.le_refl, Nat.reduceEqDiff, Nat.reduceLeDiff, Nat.add_assoc, Nat.reduceAdd]
  rw [s239_788 (by simp only [List.map_cons, List.map_nil, List.sum_cons, List.sum_nil, cat_i, cat_r, cat_l, Nat.reduceAdd, Nat.reduceLeDiff])]
  refine (w_would hW) _ (fun v I' hM => ?_)
  simp (disch := first | exact ok_i | exact ok_r | exact ok_n | exact cat_i | exact cat_r | exact tag1000 | exact sc20 | exact sc20o | (refine sc_in ?_; omega) | exact ro_1 | omega | assumption | (simp only [List.map_cons, List.map_nil, List.sum_cons, List.sum_nil, cat_i, cat_r, cat_l, Nat.reduceAdd, Nat.reduceLeDiff]; done) | decide) only [s239_791, s239_792, s239_793, s239_794, s239_795, s239_796R, s239_797, s239_798, s239_799, s239_800, s239_801R, s239_802, s239_803, s239_804, s239_805, s239_806R, tl_s, tl_n, nI_add, pk_mul, i_cl, row_s, u2_row, i_le, i_lt, i_eq, if_true, if_false, Nat.le_refl, Nat.reduceEqDiff, Nat.reduceLeDiff, Nat.add_assoc, Nat.reduceAdd]
  rw [s239_807 (by simp only [List.map_cons, List.map_nil, List.sum_cons, List.sum_nil, cat_i, cat_r, cat_l, Nat.reduceAdd, Nat.reduceLeDiff])]
  refine hM _ (fun I'' hW' => ?_)
  simp (disch := first | exact ok_i | exact ok_r | exact ok_n | exact cat_i | exact cat_r | exact tag1000 | exact sc20 | exact sc20o | (refine sc_in ?_; omega) | exact ro_1 | omega | assumption | (simp only [List.map_cons, List.map_nil, List.sum_cons, List.sum_nil, cat_i, cat_r, cat_l, Nat.reduceAdd, Nat.reduceLeDiff]; done) | decide) only [s239_810, tl_s, tl_n, nI_add, pk_mul, i_cl, row_s, u2_row, i_le, i_lt, i_eq, if_true, if_false, Nat.le_refl, Nat.reduceEqDiff, Nat.reduceLeDiff]
  exact next I'' hW'
theorem lw_21 (hW : Wd n I) (h7 : 7 * n + 7 ≤ X.1) (hX : X.1 ≤ 3584) (next : ∀ I', Wd (n + 1) I' → At X 15 239 1392 [some (.ref 1000), some (.ref 0), some (.ref 102), some (.int (nI (7 * n)))] [] G0 I' Q) :
    At X 15 239 815 [some (.ref 1000), some (.ref 0), some (.ref 102), some (.int (nI (7 * n)))] [] G0 I Q := by
  simp (disch := first | exact ok_i | exact ok_r | exact ok_n | exact cat_i | exact cat_r | exact tag1000 | exact sc20 | exact sc20o | (refine sc_in ?_; omega) | exact ro_1 | omega | assumption | (simp only [List.map_cons, List.map_nil, List.sum_cons, List.sum_nil, cat_i, cat_r, cat_l, Nat.reduceAdd, Nat.reduceLeDiff]; done) | decide) only [s239_815, s239_816, s239_817, s239_818, s239_819, s239_820R, tl_s, tl_n, nI_add, pk_mul, i_cl, row_s, u2_row, i_le, i_lt, i_eq, if_true, if_false, Nat.le_refl, Nat.reduceEqDiff, Nat.reduceLeDiff, Nat.add_assoc, Nat.reduceAdd]
  rw [s239_821 (by simp only [List.map_cons, List.map_nil, List.sum_cons, List.sum_nil, cat_i, cat_r, cat_l, Nat.reduceAdd, Nat.reduceLeDiff])]
  refine (w_soonest hW) _ (fun v I' hM => ?_)
  simp (disch := first | exact ok_i | exact ok_r | exact ok_n | exact cat_i | exact cat_r | exact tag1000 | exact sc20 | exact sc20o | (refine sc_in ?_; omega) | exact ro_1 | omega | assumption | (simp only [List.map_cons, List.map_nil, List.sum_cons, List.sum_nil, cat_i, cat_r, cat_l, Nat.reduceAdd, Nat.reduceLeDiff]; done) | decide) only [s239_824, s239_825, s239_826, s239_827, s239_828, s239_829R, tl_s, tl_n, nI_add, pk_mul, i_cl, row_s, u2_row, i_le, i_lt, i_eq, if_true, if_false, Nat.le_refl, Nat.reduceEqDiff, Nat.reduceLeDiff, Nat.add_assoc, Nat.reduceAdd]
  rw [s239_830 (by simp only [List.map_cons, List.map_nil, List.sum_cons, List.sum_nil, cat_i, cat_r, cat_l, Nat.reduceAdd, Nat.reduceLeDiff])]
  refine hM _ (fun I'' hW' => ?_)
  simp (disch := first | exact ok_i | exact ok_r | exact ok_n | exact cat_i | exact cat_r | exact tag1000 | exact sc20 | exact sc20o | (refine sc_in ?_; omega) | exact ro_1 | omega | assumption | (simp only [List.map_cons, List.map_nil, List.sum_cons, List.sum_nil, cat_i, cat_r, cat_l, Nat.reduceAdd, Nat.reduceLeDiff]; done) | decide) only [s239_833, tl_s, tl_n, nI_add, pk_mul, i_cl, row_s, u2_row, i_le, i_lt, i_eq, if_true, if_false, Nat.le_refl, Nat.reduceEqDiff, Nat.reduceLeDiff]
  exact next I'' hW'
theorem lw_22 (hW : Wd n I) (h7 : 7 * n + 7 ≤ X.1) (hX : X.1 ≤ 3584) (next : ∀ I', Wd (n + 1) I' → At X 15 239 1392 [some (.ref 1000), some (.ref 0), some (.ref 102), some (.int (nI (7 * n)))] [] G0 I' Q) :
    At X 15 239 838 [some (.ref 1000), some (.ref 0), some (.ref 102), some (.int (nI (7 * n)))] [] G0 I Q := by
  simp (disch := first | exact ok_i | exact ok_r | exact ok_n | exact cat_i | exact cat_r | exact tag1000 | exact sc20 | exact sc20o | (refine sc_in ?_; omega) | exact ro_1 | omega | assumption | (simp only [List.map_cons, List.map_nil, List.sum_cons, List.sum_nil, cat_i, cat_r, cat_l, Nat.reduceAdd, Nat.reduceLeDiff]; done) | decide) only [s239_838, s239_839, s239_840, s239_841, s239_842, s239_843R, s239_844, s239_845, s239_846, s239_847, s239_848R, s239_849, s239_850, s239_851, s239_852, s239_853R, tl_s, tl_n, nI_add, pk_mul, i_cl, row_s, u2_row, i_le, i_lt, i_eq, if_true, if_false, Nat.le_refl, Nat.reduceEqDiff, Nat.reduceLeDiff, Nat.add_assoc, Nat.reduceAdd]
  rw [s239_854 (by simp only [List.map_cons, List.map_nil, List.sum_cons, List.sum_nil, cat_i, cat_r, cat_l, Nat.reduceAdd, Nat.reduceLeDiff])]
  refine (w_drawn hW (by omega)) _ (fun v I' hM => ?_)
  simp (disch := first | exact ok_i | exact ok_r | exact ok_n | exact cat_i | exact cat_r | exact tag1000 | exact sc20 | exact sc20o | (refine sc_in ?_; omega) | exact ro_1 | omega | assumption | (simp only [List.map_cons, List.map_nil, List.sum_cons, List.sum_nil, cat_i, cat_r, cat_l, Nat.reduceAdd, Nat.reduceLeDiff]; done) | decide) only [s239_857, s239_858, s239_859, s239_860, s239_861, s239_862R, s239_863, s239_864, s239_865, s239_866, s239_867R, s239_868, s239_869, s239_870, s239_871, s239_872R, tl_s, tl_n, nI_add, pk_mul, i_cl, row_s, u2_row, i_le, i_lt, i_eq, if_true, if_false, Nat.le_refl, Nat.reduceEqDiff, Nat.reduceLeDiff, Nat.add_assoc, Nat.reduceAdd]
  rw [s239_873 (by simp only [List.map_cons, List.map_nil, List.sum_cons, List.sum_nil, cat_i, cat_r, cat_l, Nat.reduceAdd, Nat.reduceLeDiff])]
  refine hM _ (fun I'' hW' => ?_)
  simp (disch := first | exact ok_i | exact ok_r | exact ok_n | exact cat_i | exact cat_r | exact tag1000 | exact sc20 | exact sc20o | (refine sc_in ?_; omega) | exact ro_1 | omega | assumption | (simp only [List.map_cons, List.map_nil, List.sum_cons, List.sum_nil, cat_i, cat_r, cat_l, Nat.reduceAdd, Nat.reduceLeDiff]; done) | decide) only [s239_876, tl_s, tl_n, nI_add, pk_mul, i_cl, row_s, u2_row, i_le, i_lt, i_eq, if_true, if_false, Nat.le_refl, Nat.reduceEqDiff, Nat.reduceLeDiff]
  exact next I'' hW'
theorem lw_23 (hW : Wd n I) (h7 : 7 * n + 7 ≤ X.1) (hX : X.1 ≤ 3584) (next : ∀ I', Wd (n + 1) I' → At X 15 239 1392 [some (.ref 1000), some (.ref 0), some (.ref 102), some (.int (nI (7 * n)))] [] G0 I' Q) :
    At X 15 239 881 [some (.ref 1000), some (.ref 0), some (.ref 102), some (.int (nI (7 * n)))] [] G0 I Q := by
  simp (disch := first | exact ok_i | exact ok_r | exact ok_n | exact cat_i | exact cat_r | exact tag1000 | exact sc20 | exact sc20o | (refine sc_in ?_; omega) | exact ro_1 | omega | assumption | (simp only [List.map_cons, List.map_nil, List.sum_cons, List.sum_nil, cat_i, cat_r, cat_l, Nat.reduceAdd, Nat.reduceLeDiff]; done) | decide) only [s239_881, s239_882, s239_883, s239_884, s239_885, s239_886R, s239_887, s239_888, s239_889, s239_890, s239_891R, s239_892, s239_893, s239_894, s239_895, s239_896R, s239_897, s239_898, s239_899, s239_900, s239_901R, tl_s, tl_n, nI_add, pk_mul, i_cl, row_s, u2_row, i_le, i_lt, i_eq, if_true, if_false, Nat.le_refl, Nat.reduceEqDiff, Nat.reduceLeDiff, Nat.add_assoc, Nat.reduceAdd]
  rw [s239_902 (by simp only [List.map_cons, List.map_nil, List.sum_cons, List.sum_nil, cat_i, cat_r, cat_l, Nat.reduceAdd, Nat.reduceLeDiff])]
  refine (w_chance hW (by omega)) _ (fun v I' hM => ?_)
  simp (disch := first | exact ok_i | exact ok_r | exact ok_n | exact cat_i | exact cat_r | exact tag1000 | exact sc20 | exact sc20o | (refine sc_in ?_; omega) | exact ro_1 | omega | assumption | (simp only [List.map_cons, List.map_nil, List.sum_cons, List.sum_nil, cat_i, cat_r, cat_l, Nat.reduceAdd, Nat.reduceLeDiff]; done) | decide) only [s239_905, s239_906, s239_907, s239_908, s239_909, s239_910R, s239_911, s239_912, s239_913, s239_914, s239_915R, s239_916, s239_917, s239_918, s239_919, s239_920R, s239_921, s239_922, s239_923, s239_924, s239_925R, tl_s, tl_n, nI_add, pk_mul, i_cl, row_s, u2_row, i_le, i_lt, i_eq, if_true, if_false, Nat.le_refl, Nat.reduceEqDiff, Nat.reduceLeDiff, Nat.add_assoc, Nat.reduceAdd]
  rw [s239_926 (by simp only [List.map_cons, List.map_nil, List.sum_cons, List.sum_nil, cat_i, cat_r, cat_l, Nat.reduceAdd, Nat.reduceLeDiff])]
  refine hM _ (fun I'' hW' => ?_)
  simp (disch := first | exact ok_i | exact ok_r | exact ok_n | exact cat_i | exact cat_r | exact tag1000 | exact sc20 | exact sc20o | (refine sc_in ?_; omega) | exact ro_1 | omega | assumption | (simp only [List.map_cons, List.map_nil, List.sum_cons, List.sum_nil, cat_i, cat_r, cat_l, Nat.reduceAdd, Nat.reduceLeDiff]; done) | decide) only [s239_929, tl_s, tl_n, nI_add, pk_mul, i_cl, row_s, u2_row, i_le, i_lt, i_eq, if_true, if_false, Nat.le_refl, Nat.reduceEqDiff, Nat.reduceLeDiff]
  exact next I'' hW'
theorem lw_24 (hW : Wd n I) (h7 : 7 * n + 7 ≤ X.1) (hX : X.1 ≤ 3584) (next : ∀ I', Wd (n + 1) I' → At X 15 239 1392 [some (.ref 1000), some (.ref 0), some (.ref 102), some (.int (nI (7 * n)))] [] G0 I' Q) :
    At X 15 239 934 [some (.ref 1000), some (.ref 0), some (.ref 102), some (.int (nI (7 * n)))] [] G0 I Q := by
  simp (disch := first | exact ok_i | exact ok_r | exact ok_n | exact cat_i | exact cat_r | exact tag1000 | exact sc20 | exact sc20o | (refine sc_in ?_; omega) | exact ro_1 | omega | assumption | (simp only [List.map_cons, List.map_nil, List.sum_cons, List.sum_nil, cat_i, cat_r, cat_l, Nat.reduceAdd, Nat.reduceLeDiff]; done) | decide) only [s239_934, s239_935, s239_936, s239_937, s239_938, s239_939R, s239_940, s239_941, s239_942, s239_943, s239_944R, s239_945, s239_946, s239_947, s239_948, s239_949R, s239_950, s239_951, s239_952, s239_953, s239_954R, s239_955, s239_956, s239_957, s239_958, s239_959R, s239_960, s239_961, s239_962, s239_964, s239_965R, tl_s, tl_n, nI_add, pk_mul, i_cl, row_s, u2_row, i_le, i_lt, i_eq, if_true, if_false, Nat.le_refl, Nat.reduceEqDiff, Nat.reduceLeDiff, Nat.add_assoc, Nat.reduceAdd]
  rw [s239_966 (by simp only [List.map_cons, List.map_nil, List.sum_cons, List.sum_nil, cat_i, cat_r, cat_l, Nat.reduceAdd, Nat.reduceLeDiff])]
  refine (w_feed hW) _ (fun v I' hM => ?_)
  simp (disch := first | exact ok_i | exact ok_r | exact ok_n | exact cat_i | exact cat_r | exact tag1000 | exact sc20 | exact sc20o | (refine sc_in ?_; omega) | exact ro_1 | omega | assumption | (simp only [List.map_cons, List.map_nil, List.sum_cons, List.sum_nil, cat_i, cat_r, cat_l, Nat.reduceAdd, Nat.reduceLeDiff]; done) | decide) only [s239_969, s239_970, s239_971, s239_972, s239_973, s239_974R, s239_975, s239_976, s239_977, s239_978, s239_979R, s239_980, s239_981, s239_982, s239_983, s239_984R, s239_985, s239_986, s239_987, s239_988, s239_989R, s239_990, s239_991, s239_992, s239_993, s239_994R, s239_995, s239_996, s239_997, s239_999, s239_1000R, tl_s, tl_n, nI_add, pk_mul, i_cl, row_s, u2_row, i_le, i_lt, i_eq, if_true, if_false, Nat.le_refl, Nat.reduceEqDiff, Nat.reduceLeDiff, Nat.add_assoc, Nat.reduceAdd]
  rw [s239_1001 (by simp only [List.map_cons, List.map_nil, List.sum_cons, List.sum_nil, cat_i, cat_r, cat_l, Nat.reduceAdd, Nat.reduceLeDiff])]
  refine hM _ (fun I'' hW' => ?_)
  simp (disch := first | exact ok_i | exact ok_r | exact ok_n | exact cat_i | exact cat_r | exact tag1000 | exact sc20 | exact sc20o | (refine sc_in ?_; omega) | exact ro_1 | omega | assumption | (simp only [List.map_cons, List.map_nil, List.sum_cons, List.sum_nil, cat_i, cat_r, cat_l, Nat.reduceAdd, Nat.reduceLeDiff]; done) | decide) only [s239_1004, tl_s, tl_n, nI_add, pk_mul, i_cl, row_s, u2_row, i_le, i_lt, i_eq, if_true, if_false, Nat.le_refl, Nat.reduceEqDiff, Nat.reduceLeDiff]
  exact next I'' hW'
theorem lw_25 (hW : Wd n I) (h7 : 7 * n + 7 ≤ X.1) (hX : X.1 ≤ 3584) (next : ∀ I', Wd (n + 1) I' → At X 15 239 1392 [some (.ref 1000), some (.ref 0), some (.ref 102), some (.int (nI (7 * n)))] [] G0 I' Q) :
    At X 15 239 1009 [some (.ref 1000), some (.ref 0), some (.ref 102), some (.int (nI (7 * n)))] [] G0 I Q := by
  simp (disch := first | exact ok_i | exact ok_r | exact ok_n | exact cat_i | exact cat_r | exact tag1000 | exact sc20 | exact sc20o | (refine sc_in ?_; omega) | exact ro_1 | omega | assumption | (simp only [List.map_cons, List.map_nil, List.sum_cons, List.sum_nil, cat_i, cat_r, cat_l, Nat.reduceAdd, Nat.reduceLeDiff]; done) | decide) only [s239_1009, tl_s, tl_n, nI_add, pk_mul, i_cl, row_s, u2_row, i_le, i_lt, i_eq, if_true, if_false, Nat.le_refl, Nat.reduceEqDiff, Nat.reduceLeDiff, Nat.add_assoc, Nat.reduceAdd]
  rw [s239_1010 (by simp only [List.map_cons, List.map_nil, List.sum_cons, List.sum_nil, cat_i, cat_r, cat_l, Nat.reduceAdd, Nat.reduceLeDiff])]
  refine (w_text hW) _ (fun v I' hM => ?_)
  simp (disch := first | exact ok_i | exact ok_r | exact ok_n | exact cat_i | exact cat_r | exact tag1000 | exact sc20 | exact sc20o | (refine sc_in ?_; omega) | exact ro_1 | omega | assumption | (simp only [List.map_cons, List.map_nil, List.sum_cons, List.sum_nil, cat_i, cat_r, cat_l, Nat.reduceAdd, Nat.reduceLeDiff]; done) | decide) only [s239_1013, tl_s, tl_n, nI_add, pk_mul, i_cl, row_s, u2_row, i_le, i_lt, i_eq, if_true, if_false, Nat.le_refl, Nat.reduceEqDiff, Nat.reduceLeDiff, Nat.add_assoc, Nat.reduceAdd]
  rw [s239_1014 (by simp only [List.map_cons, List.map_nil, List.sum_cons, List.sum_nil, cat_i, cat_r, cat_l, Nat.reduceAdd, Nat.reduceLeDiff])]
  refine hM _ (fun I'' hW' => ?_)
  simp (disch := first | exact ok_i | exact ok_r | exact ok_n | exact cat_i | exact cat_r | exact tag1000 | exact sc20 | exact sc20o | (refine sc_in ?_; omega) | exact ro_1 | omega | assumption | (simp only [List.map_cons, List.map_nil, List.sum_cons, List.sum_nil, cat_i, cat_r, cat_l, Nat.reduceAdd, Nat.reduceLeDiff]; done) | decide) only [s239_1017, tl_s, tl_n, nI_add, pk_mul, i_cl, row_s, u2_row, i_le, i_lt, i_eq, if_true, if_false, Nat.le_refl, Nat.reduceEqDiff, Nat.reduceLeDiff]
  exact next I'' hW'
theorem lw_26 (hW : Wd n I) (h7 : 7 * n + 7 ≤ X.1) (hX : X.1 ≤ 3584) (next : ∀ I', Wd (n + 1) I' → At X 15 239 1392 [some (.ref 1000), some (.ref 0), some (.ref 102), some (.int (nI (7 * n)))] [] G0 I' Q) :
    At X 15 239 1022 [some (.ref 1000), some (.ref 0), some (.ref 102), some (.int (nI (7 * n)))] [] G0 I Q := by
  simp (disch := first | exact ok_i | exact ok_r | exact ok_n | exact cat_i | exact cat_r | exact tag1000 | exact sc20 | exact sc20o | (refine sc_in ?_; omega) | exact ro_1 | omega | assumption | (simp only [List.map_cons, List.map_nil, List.sum_cons, List.sum_nil, cat_i, cat_r, cat_l, Nat.reduceAdd, Nat.reduceLeDiff]; done) | decide) only [s239_1022, s239_1023, s239_1024, s239_1025, s239_1026, s239_1027R, s239_1028, s239_1029, s239_1030, s239_1031, s239_1032R, tl_s, tl_n, nI_add, pk_mul, i_cl, row_s, u2_row, i_le, i_lt, i_eq, if_true, if_false, Nat.le_refl, Nat.reduceEqDiff, Nat.reduceLeDiff, Nat.add_assoc, Nat.reduceAdd]
  rw [s239_1033 (by simp only [List.map_cons, List.map_nil, List.sum_cons, List.sum_nil, cat_i, cat_r, cat_l, Nat.reduceAdd, Nat.reduceLeDiff])]
  refine (w_event hW) _ (fun v I' hM => ?_)
  simp (disch := first | exact ok_i | exact ok_r | exact ok_n | exact cat_i | exact cat_r | exact tag1000 | exact sc20 | exact sc20o | (refine sc_in ?_; omega) | exact ro_1 | omega | assumption | (simp only [List.map_cons, List.map_nil, List.sum_cons, List.sum_nil, cat_i, cat_r, cat_l, Nat.reduceAdd, Nat.reduceLeDiff]; done) | decide) only [s239_1036, s239_1037, s239_1038, s239_1039, s239_1040, s239_1041R, s239_1042, s239_1043, s239_1044, s239_1045, s239_1046R, tl_s, tl_n, nI_add, pk_mul, i_cl, row_s, u2_row, i_le, i_lt, i_eq, if_true, if_false, Nat.le_refl, Nat.reduceEqDiff, Nat.reduceLeDiff, Nat.add_assoc, Nat.reduceAdd]
  rw [s239_1047 (by simp only [List.map_cons, List.map_nil, List.sum_cons, List.sum_nil, cat_i, cat_r, cat_l, Nat.reduceAdd, Nat.reduceLeDiff])]
  refine hM _ (fun I'' hW' => ?_)
  simp (disch := first | exact ok_i | exact ok_r | exact ok_n | exact cat_i | exact cat_r | exact tag1000 | exact sc20 | exact sc20o | (refine sc_in ?_; omega) | exact ro_1 | omega | assumption | (simp only [List.map_cons, List.map_nil, List.sum_cons, List.sum_nil, cat_i, cat_r, cat_l, Nat.reduceAdd, Nat.reduceLeDiff]; done) | decide) only [s239_1050, tl_s, tl_n, nI_add, pk_mul, i_cl, row_s, u2_row, i_le, i_lt, i_eq, if_true, if_false, Nat.le_refl, Nat.reduceEqDiff, Nat.reduceLeDiff]
  exact next I'' hW'
theorem lw_27 (hW : Wd n I) (h7 : 7 * n + 7 ≤ X.1) (hX : X.1 ≤ 3584) (next : ∀ I', Wd (n + 1) I' → At X 15 239 1392 [some (.ref 1000), some (.ref 0), some (.ref 102), some (.int (nI (7 * n)))] [] G0 I' Q) :
    At X 15 239 1055 [some (.ref 1000), some (.ref 0), some (.ref 102), some (.int (nI (7 * n)))] [] G0 I Q := by
  simp (disch := first | exact ok_i | exact ok_r | exact ok_n | exact cat_i | exact cat_r | exact tag1000 | exact sc20 | exact sc20o | (refine sc_in ?_; omega) | exact ro_1 | omega | assumption | (simp only [List.map_cons, List.map_nil, List.sum_cons, List.sum_nil, cat_i, cat_r, cat_l, Nat.reduceAdd, Nat.reduceLeDiff]; done) | decide) only [s239_1055, s239_1056, s239_1057, s239_1058, s239_1059, s239_1060R, s239_1061, s239_1062, s239_1063, s239_1064, s239_1065R, s239_1066, s239_1067, s239_1068, s239_1069, s239_1070R, tl_s, tl_n, nI_add, pk_mul, i_cl, row_s, u2_row, i_le, i_lt, i_eq, if_true, if_false, Nat.le_refl, Nat.reduceEqDiff, Nat.reduceLeDiff, Nat.add_assoc, Nat.reduceAdd]
  rw [s239_1071 (by simp only [List.map_cons, List.map_nil, List.sum_cons, List.sum_nil, cat_i, cat_r, cat_l, Nat.reduceAdd, Nat.reduceLeDiff])]
  refine (w_tells hW) _ (fun v I' hM => ?_)
  simp (disch := first | exact ok_i | exact ok_r | exact ok_n | exact cat_i | exact cat_r | exact tag1000 | exact sc20 | exact sc20o | (refine sc_in ?_; omega) | exact ro_1 | omega | assumption | (simp only [List.map_cons, List.map_nil, List.sum_cons, List.sum_nil, cat_i, cat_r, cat_l, Nat.reduceAdd, Nat.reduceLeDiff]; done) | decide) only [s239_1074, s239_1075, s239_1076, s239_1077, s239_1078, s239_1079R, s239_1080, s239_1081, s239_1082, s239_1083, s239_1084R, s239_1085, s239_1086, s239_1087, s239_1088, s239_1089R, tl_s, tl_n, nI_add, pk_mul, i_cl, row_s, u2_row, i_le, i_lt, i_eq, if_true, if_false, Nat.le_refl, Nat.reduceEqDiff, Nat.reduceLeDiff, Nat.add_assoc, Nat.reduceAdd]
  rw [s239_1090 (by simp only [List.map_cons, List.map_nil, List.sum_cons, List.sum_nil, cat_i, cat_r, cat_l, Nat.reduceAdd, Nat.reduceLeDiff])]
  refine hM _ (fun I'' hW' => ?_)
  simp (disch := first | exact ok_i | exact ok_r | exact ok_n | exact cat_i | exact cat_r | exact tag1000 | exact sc20 | exact sc20o | (refine sc_in ?_; omega) | exact ro_1 | omega | assumption | (simp only [List.map_cons, List.map_nil, List.sum_cons, List.sum_nil, cat_i, cat_r, cat_l, Nat.reduceAdd, Nat.reduceLeDiff]; done) | decide) only [s239_1093, tl_s, tl_n, nI_add, pk_mul, i_cl, row_s, u2_row, i_le, i_lt, i_eq, if_true, if_false, Nat.le_refl, Nat.reduceEqDiff, Nat.reduceLeDiff]
  exact next I'' hW'
theorem lw_28 (hW : Wd n I) (h7 : 7 * n + 7 ≤ X.1) (hX : X.1 ≤ 3584) (next : ∀ I', Wd (n + 1) I' → At X 15 239 1392 [some (.ref 1000), some (.ref 0), some (.ref 102), some (.int (nI (7 * n)))] [] G0 I' Q) :
    At X 15 239 1098 [some (.ref 1000), some (.ref 0), some (.ref 102), some (.int (nI (7 * n)))] [] G0 I Q := by
  simp (disch := first | exact ok_i | exact ok_r | exact ok_n | exact cat_i | exact cat_r | exact tag1000 | exact sc20 | exact sc20o | (refine sc_in ?_; omega) | exact ro_1 | omega | assumption | (simp only [List.map_cons, List.map_nil, List.sum_cons, List.sum_nil, cat_i, cat_r, cat_l, Nat.reduceAdd, Nat.reduceLeDiff]; done) | decide) only [s239_1098, s239_1099, s239_1100, s239_1101, s239_1102, s239_1103R, s239_1104, s239_1105, s239_1106, s239_1107, s239_1108R, s239_1109, s239_1110, s239_1111, s239_1112, s239_1113R, tl_s, tl_n, nI_add, pk_mul, i_cl, row_s, u2_row, i_le, i_lt, i_eq, if_true, if_false, Nat.le_refl, Nat.reduceEqDiff, Nat.reduceLeDiff, Nat.add_assoc, Nat.reduceAdd]
  rw [s239_1114 (by simp only [List.map_cons, List.map_nil, List.sum_cons, List.sum_nil, cat_i, cat_r, cat_l, Nat.reduceAdd, Nat.reduceLeDiff])]
  refine (w_film hW) _ (fun v I' hM => ?_)
  simp (disch := first | exact ok_i | exact ok_r | exact ok_n | exact cat_i | exact cat_r | exact tag1000 | exact sc20 | exact sc20o | (refine sc_in ?_; omega) | exact ro_1 | omega | assumption | (simp only [List.map_cons, List.map_nil, List.sum_cons, List.sum_nil, cat_i, cat_r, cat_l, Nat.reduceAdd, Nat.reduceLeDiff]; done) | decide) only [s239_1117, s239_1118, s239_1119, s239_1120, s239_1121, s239_1122R, s239_1123, s239_1124, s239_1125, s239_1126, s239_1127R, s239_1128, s239_1129, s239_1130, s239_1131, s239_1132R, tl_s, tl_n, nI_add, pk_mul, i_cl, row_s, u2_row, i_le, i_lt, i_eq, if_true, if_false, Nat.le_refl, Nat.reduceEqDiff, Nat.reduceLeDiff, Nat.add_assoc, Nat.reduceAdd]
  rw [s239_1133 (by simp only [List.map_cons, List.map_nil, List.sum_cons, List.sum_nil, cat_i, cat_r, cat_l, Nat.reduceAdd, Nat.reduceLeDiff])]
  refine hM _ (fun I'' hW' => ?_)
  simp (disch := first | exact ok_i | exact ok_r | exact ok_n | exact cat_i | exact cat_r | exact tag1000 | exact sc20 | exact sc20o | (refine sc_in ?_; omega) | exact ro_1 | omega | assumption | (simp only [List.map_cons, List.map_nil, List.sum_cons, List.sum_nil, cat_i, cat_r, cat_l, Nat.reduceAdd, Nat.reduceLeDiff]; done) | decide) only [s239_1136, tl_s, tl_n, nI_add, pk_mul, i_cl, row_s, u2_row, i_le, i_lt, i_eq, if_true, if_false, Nat.le_refl, Nat.reduceEqDiff, Nat.reduceLeDiff]
  exact next I'' hW'
theorem lw_29 (hW : Wd n I) (h7 : 7 * n + 7 ≤ X.1) (hX : X.1 ≤ 3584) (next : ∀ I', Wd (n + 1) I' → At X 15 239 1392 [some (.ref 1000), some (.ref 0), some (.ref 102), some (.int (nI (7 * n)))] [] G0 I' Q) :
    At X 15 239 1141 [some (.ref 1000), some (.ref 0), some (.ref 102), some (.int (nI (7 * n)))] [] G0 I Q := by
  simp (disch := first | exact ok_i | exact ok_r | exact ok_n | exact cat_i | exact cat_r | exact tag1000 | exact sc20 | exact sc20o | (refine sc_in ?_; omega) | exact ro_1 | omega | assumption | (simp only [List.map_cons, List.map_nil, List.sum_cons, List.sum_nil, cat_i, cat_r, cat_l, Nat.reduceAdd, Nat.reduceLeDiff]; done) | decide) only [s239_1141, s239_1142, s239_1143, s239_1144, s239_1145, s239_1146R, s239_1147, s239_1148, s239_1149, s239_1150, s239_1151R, s239_1152, s239_1153, s239_1154, s239_1155, s239_1156R, s239_1157, s239_1158, s239_1159, s239_1160, s239_1161R, tl_s, tl_n, nI_add, pk_mul, i_cl, row_s, u2_row, i_le, i_lt, i_eq, if_true, if_false, Nat.le_refl, Nat.reduceEqDiff, Nat.reduceLeDiff, Nat.add_assoc, Nat.reduceAdd]
  rw [s239_1162 (by simp only [List.map_cons, List.map_nil, List.sum_cons, List.sum_nil, cat_i, cat_r, cat_l, Nat.reduceAdd, Nat.reduceLeDiff])]
  refine (w_load hW) _ (fun v I' hM => ?_)
  simp (disch := first | exact ok_i | exact ok_r | exact ok_n | exact cat_i | exact cat_r | exact tag1000 | exact sc20 | exact sc20o | (refine sc_in ?_; omega) | exact ro_1 | omega | assumption | (simp only [List.map_cons, List.map_nil, List.sum_cons, List.sum_nil, cat_i, cat_r, cat_l, Nat.reduceAdd, Nat.reduceLeDiff]; done) | decide) only [s239_1165, s239_1166, s239_1167, s239_1168, s239_1169, s239_1170R, s239_1171, s239_1172, s239_1173, s239_1174, s239_1175R, s239_1176, s239_1177, s239_1178, s239_1179, s239_1180R, s239_1181, s239_1182, s239_1183, s239_1184, s239_1185R, tl_s, tl_n, nI_add, pk_mul, i_cl, row_s, u2_row, i_le, i_lt, i_eq, if_true, if_false, Nat.le_refl, Nat.reduceEqDiff, Nat.reduceLeDiff, Nat.add_assoc, Nat.reduceAdd]
  rw [s239_1186 (by simp only [List.map_cons, List.map_nil, List.sum_cons, List.sum_nil, cat_i, cat_r, cat_l, Nat.reduceAdd, Nat.reduceLeDiff])]
  refine hM _ (fun I'' hW' => ?_)
  simp (disch := first | exact ok_i | exact ok_r | exact ok_n | exact cat_i | exact cat_r | exact tag1000 | exact sc20 | exact sc20o | (refine sc_in ?_; omega) | exact ro_1 | omega | assumption | (simp only [List.map_cons, List.map_nil, List.sum_cons, List.sum_nil, cat_i, cat_r, cat_l, Nat.reduceAdd, Nat.reduceLeDiff]; done) | decide) only [s239_1189, tl_s, tl_n, nI_add, pk_mul, i_cl, row_s, u2_row, i_le, i_lt, i_eq, if_true, if_false, Nat.le_refl, Nat.reduceEqDiff, Nat.reduceLeDiff]
  exact next I'' hW'
theorem lw_30 (hW : Wd n I) (h7 : 7 * n + 7 ≤ X.1) (hX : X.1 ≤ 3584) (next : ∀ I', Wd (n + 1) I' → At X 15 239 1392 [some (.ref 1000), some (.ref 0), some (.ref 102), some (.int (nI (7 * n)))] [] G0 I' Q) :
    At X 15 239 1194 [some (.ref 1000), some (.ref 0), some (.ref 102), some (.int (nI (7 * n)))] [] G0 I Q := by
  simp (disch := first | exact ok_i | exact ok_r | exact ok_n | exact cat_i | exact cat_r | exact tag1000 | exact sc20 | exact sc20o | (refine sc_in ?_; omega) | exact ro_1 | omega | assumption | (simp only [List.map_cons, List.map_nil, List.sum_cons, List.sum_nil, cat_i, cat_r, cat_l, Nat.reduceAdd, Nat.reduceLeDiff]; done) | decide) only [s239_1194, tl_s, tl_n, nI_add, pk_mul, i_cl, row_s, u2_row, i_le, i_lt, i_eq, if_true, if_false, Nat.le_refl, Nat.reduceEqDiff, Nat.reduceLeDiff, Nat.add_assoc, Nat.reduceAdd]
  rw [s239_1195 (by simp only [List.map_cons, List.map_nil, List.sum_cons, List.sum_nil, cat_i, cat_r, cat_l, Nat.reduceAdd, Nat.reduceLeDiff])]
  refine (w_image hW) _ (fun v I' hM => ?_)
  simp (disch := first | exact ok_i | exact ok_r | exact ok_n | exact cat_i | exact cat_r | exact tag1000 | exact sc20 | exact sc20o | (refine sc_in ?_; omega) | exact ro_1 | omega | assumption | (simp only [List.map_cons, List.map_nil, List.sum_cons, List.sum_nil, cat_i, cat_r, cat_l, Nat.reduceAdd, Nat.reduceLeDiff]; done) | decide) only [s239_1198, tl_s, tl_n, nI_add, pk_mul, i_cl, row_s, u2_row, i_le, i_lt, i_eq, if_true, if_false, Nat.le_refl, Nat.reduceEqDiff, Nat.reduceLeDiff, Nat.add_assoc, Nat.reduceAdd]
  rw [s239_1199 (by simp only [List.map_cons, List.map_nil, List.sum_cons, List.sum_nil, cat_i, cat_r, cat_l, Nat.reduceAdd, Nat.reduceLeDiff])]
  refine hM _ (fun I'' hW' => ?_)
  simp (disch := first | exact ok_i | exact ok_r | exact ok_n | exact cat_i | exact cat_r | exact tag1000 | exact sc20 | exact sc20o | (refine sc_in ?_; omega) | exact ro_1 | omega | assumption | (simp only [List.map_cons, List.map_nil, List.sum_cons, List.sum_nil, cat_i, cat_r, cat_l, Nat.reduceAdd, Nat.reduceLeDiff]; done) | decide) only [s239_1202, tl_s, tl_n, nI_add, pk_mul, i_cl, row_s, u2_row, i_le, i_lt, i_eq, if_true, if_false, Nat.le_refl, Nat.reduceEqDiff, Nat.reduceLeDiff]
  exact next I'' hW'
theorem lw_31 (hW : Wd n I) (h7 : 7 * n + 7 ≤ X.1) (hX : X.1 ≤ 3584) (next : ∀ I', Wd (n + 1) I' → At X 15 239 1392 [some (.ref 1000), some (.ref 0), some (.ref 102), some (.int (nI (7 * n)))] [] G0 I' Q) :
    At X 15 239 1207 [some (.ref 1000), some (.ref 0), some (.ref 102), some (.int (nI (7 * n)))] [] G0 I Q := by
  simp (disch := first | exact ok_i | exact ok_r | exact ok_n | exact cat_i | exact cat_r | exact tag1000 | exact sc20 | exact sc20o | (refine sc_in ?_; omega) | exact ro_1 | omega | assumption | (simp only [List.map_cons, List.map_nil, List.sum_cons, List.sum_nil, cat_i, cat_r, cat_l, Nat.reduceAdd, Nat.reduceLeDiff]; done) | decide) only [s239_1207, tl_s, tl_n, nI_add, pk_mul, i_cl, row_s, u2_row, i_le, i_lt, i_eq, if_true, if_false, Nat.le_refl, Nat.reduceEqDiff, Nat.reduceLeDiff, Nat.add_assoc, Nat.reduceAdd]
  rw [s239_1208 (by simp only [List.map_cons, List.map_nil, List.sum_cons, List.sum_nil, cat_i, cat_r, cat_l, Nat.reduceAdd, Nat.reduceLeDiff])]
  refine (w_back hW) _ (fun v I' hM => ?_)
  simp (disch := first | exact ok_i | exact ok_r | exact ok_n | exact cat_i | exact cat_r | exact tag1000 | exact sc20 | exact sc20o | (refine sc_in ?_; omega) | exact ro_1 | omega | assumption | (simp only [List.map_cons, List.map_nil, List.sum_cons, List.sum_nil, cat_i, cat_r, cat_l, Nat.reduceAdd, Nat.reduceLeDiff]; done) | decide) only [s239_1211, tl_s, tl_n, nI_add, pk_mul, i_cl, row_s, u2_row, i_le, i_lt, i_eq, if_true, if_false, Nat.le_refl, Nat.reduceEqDiff, Nat.reduceLeDiff, Nat.add_assoc, Nat.reduceAdd]
  rw [s239_1212 (by simp only [List.map_cons, List.map_nil, List.sum_cons, List.sum_nil, cat_i, cat_r, cat_l, Nat.reduceAdd, Nat.reduceLeDiff])]
  refine hM _ (fun I'' hW' => ?_)
  simp (disch := first | exact ok_i | exact ok_r | exact ok_n | exact cat_i | exact cat_r | exact tag1000 | exact sc20 | exact sc20o | (refine sc_in ?_; omega) | exact ro_1 | omega | assumption | (simp only [List.map_cons, List.map_nil, List.sum_cons, List.sum_nil, cat_i, cat_r, cat_l, Nat.reduceAdd, Nat.reduceLeDiff]; done) | decide) only [s239_1215, tl_s, tl_n, nI_add, pk_mul, i_cl, row_s, u2_row, i_le, i_lt, i_eq, if_true, if_false, Nat.le_refl, Nat.reduceEqDiff, Nat.reduceLeDiff]
  exact next I'' hW'
theorem lw_32 (hW : Wd n I) (h7 : 7 * n + 7 ≤ X.1) (hX : X.1 ≤ 3584) (next : ∀ I', Wd (n + 1) I' → At X 15 239 1392 [some (.ref 1000), some (.ref 0), some (.ref 102), some (.int (nI (7 * n)))] [] G0 I' Q) :
    At X 15 239 1220 [some (.ref 1000), some (.ref 0), some (.ref 102), some (.int (nI (7 * n)))] [] G0 I Q := by
  simp (disch := first | exact ok_i | exact ok_r | exact ok_n | exact cat_i | exact cat_r | exact tag1000 | exact sc20 | exact sc20o | (refine sc_in ?_; omega) | exact ro_1 | omega | assumption | (simp only [List.map_cons, List.map_nil, List.sum_cons, List.sum_nil, cat_i, cat_r, cat_l, Nat.reduceAdd, Nat.reduceLeDiff]; done) | decide) only [s239_1220, s239_1221, s239_1222, s239_1223, s239_1224, s239_1225R, tl_s, tl_n, nI_add, pk_mul, i_cl, row_s, u2_row, i_le, i_lt, i_eq, if_true, if_false, Nat.le_refl, Nat.reduceEqDiff, Nat.reduceLeDiff, Nat.add_assoc, Nat.reduceAdd]
  rw [s239_1226 (by simp only [List.map_cons, List.map_nil, List.sum_cons, List.sum_nil, cat_i, cat_r, cat_l, Nat.reduceAdd, Nat.reduceLeDiff])]
  refine (w_count hW) _ (fun v I' hM => ?_)
  simp (disch := first | exact ok_i | exact ok_r | exact ok_n | exact cat_i | exact cat_r | exact tag1000 | exact sc20 | exact sc20o | (refine sc_in ?_; omega) | exact ro_1 | omega | assumption | (simp only [List.map_cons, List.map_nil, List.sum_cons, List.sum_nil, cat_i, cat_r, cat_l, Nat.reduceAdd, Nat.reduceLeDiff]; done) | decide) only [s239_1229, s239_1230, s239_1231, s239_1232, s239_1233, s239_1234R, tl_s, tl_n, nI_add, pk_mul, i_cl, row_s, u2_row, i_le, i_lt, i_eq, if_true, if_false, Nat.le_refl, Nat.reduceEqDiff, Nat.reduceLeDiff, Nat.add_assoc, Nat.reduceAdd]
  rw [s239_1235 (by simp only [List.map_cons, List.map_nil, List.sum_cons, List.sum_nil, cat_i, cat_r, cat_l, Nat.reduceAdd, Nat.reduceLeDiff])]
  refine hM _ (fun I'' hW' => ?_)
  simp (disch := first | exact ok_i | exact ok_r | exact ok_n | exact cat_i | exact cat_r | exact tag1000 | exact sc20 | exact sc20o | (refine sc_in ?_; omega) | exact ro_1 | omega | assumption | (simp only [List.map_cons, List.map_nil, List.sum_cons, List.sum_nil, cat_i, cat_r, cat_l, Nat.reduceAdd, Nat.reduceLeDiff]; done) | decide) only [s239_1238, tl_s, tl_n, nI_add, pk_mul, i_cl, row_s, u2_row, i_le, i_lt, i_eq, if_true, if_false, Nat.le_refl, Nat.reduceEqDiff, Nat.reduceLeDiff]
  exact next I'' hW'
theorem lw_33 (hW : Wd n I) (h7 : 7 * n + 7 ≤ X.1) (hX : X.1 ≤ 3584) (next : ∀ I', Wd (n + 1) I' → At X 15 239 1392 [some (.ref 1000), some (.ref 0), some (.ref 102), some (.int (nI (7 * n)))] [] G0 I' Q) :
    At X 15 239 1243 [some (.ref 1000), some (.ref 0), some (.ref 102), some (.int (nI (7 * n)))] [] G0 I Q := by
  simp (disch := first | exact ok_i | exact ok_r | exact ok_n | exact cat_i | exact cat_r | exact tag1000 | exact sc20 | exact sc20o | (refine sc_in ?_; omega) | exact ro_1 | omega | assumption | (simp only [List.map_cons, List.map_nil, List.sum_cons, List.sum_nil, cat_i, cat_r, cat_l, Nat.reduceAdd, Nat.reduceLeDiff]; done) | decide) only [s239_1243, s239_1244, s239_1245, s239_1246, s239_1247, s239_1248R, s239_1249, s239_1250, s239_1251, s239_1252, s239_1253R, s239_1254, s239_1255, s239_1256, s239_1257, s239_1258R, tl_s, tl_n, nI_add, pk_mul, i_cl, row_s, u2_row, i_le, i_lt, i_eq, if_true, if_false, Nat.le_refl, Nat.reduceEqDiff, Nat.reduceLeDiff, Nat.add_assoc, Nat.reduceAdd]
  rw [s239_1259 (by simp only [List.map_cons, List.map_nil, List.sum_cons, List.sum_nil, cat_i, cat_r, cat_l, Nat.reduceAdd, Nat.reduceLeDiff])]
  refine (w_sheet hW) _ (fun v I' hM => ?_)
  simp (disch := first | exact ok_i | exact ok_r | exact ok_n | exact cat_i | exact cat_r | exact tag1000 | exact sc20 | exact sc20o | (refine sc_in ?_; omega) | exact ro_1 | omega | assumption | (simp only [List.map_cons, List.map_nil, List.sum_cons, List.sum_nil, cat_i, cat_r, cat_l, Nat.reduceAdd, Nat.reduceLeDiff]; done) | decide) only [s239_1262, s239_1263, s239_1264, s239_1265, s239_1266, s239_1267R, s239_1268, s239_1269, s239_1270, s239_1271, s239_1272R, s239_1273, s239_1274, s239_1275, s239_1276, s239_1277R, tl_s, tl_n, nI_add, pk_mul, i_cl, row_s, u2_row, i_le, i_lt, i_eq, if_true, if_false, Nat.le_refl, Nat.reduceEqDiff, Nat.reduceLeDiff, Nat.add_assoc, Nat.reduceAdd]
  rw [s239_1278 (by simp only [List.map_cons, List.map_nil, List.sum_cons, List.sum_nil, cat_i, cat_r, cat_l, Nat.reduceAdd, Nat.reduceLeDiff])]
  refine hM _ (fun I'' hW' => ?_)
  simp (disch := first | exact ok_i | exact ok_r | exact ok_n | exact cat_i | exact cat_r | exact tag1000 | exact sc20 | exact sc20o | (refine sc_in ?_; omega) | exact ro_1 | omega | assumption | (simp only [List.map_cons, List.map_nil, List.sum_cons, List.sum_nil, cat_i, cat_r, cat_l, Nat.reduceAdd, Nat.reduceLeDiff]; done) | decide) only [s239_1281, tl_s, tl_n, nI_add, pk_mul, i_cl, row_s, u2_row, i_le, i_lt, i_eq, if_true, if_false, Nat.le_refl, Nat.reduceEqDiff, Nat.reduceLeDiff]
  exact next I'' hW'
theorem lw_34 (hW : Wd n I) (h7 : 7 * n + 7 ≤ X.1) (hX : X.1 ≤ 3584) (next : ∀ I', Wd (n + 1) I' → At X 15 239 1392 [some (.ref 1000), some (.ref 0), some (.ref 102), some (.int (nI (7 * n)))] [] G0 I' Q) :
    At X 15 239 1286 [some (.ref 1000), some (.ref 0), some (.ref 102), some (.int (nI (7 * n)))] [] G0 I Q := by
  simp (disch := first | exact ok_i | exact ok_r | exact ok_n | exact cat_i | exact cat_r | exact tag1000 | exact sc20 | exact sc20o | (refine sc_in ?_; omega) | exact ro_1 | omega | assumption | (simp only [List.map_cons, List.map_nil, List.sum_cons, List.sum_nil, cat_i, cat_r, cat_l, Nat.reduceAdd, Nat.reduceLeDiff]; done) | decide) only [s239_1286, s239_1287, s239_1288, s239_1289, s239_1290, s239_1291R, s239_1292, s239_1293, s239_1294, s239_1295, s239_1296R, s239_1297, s239_1298, s239_1299, s239_1300, s239_1301R, tl_s, tl_n, nI_add, pk_mul, i_cl, row_s, u2_row, i_le, i_lt, i_eq, if_true, if_false, Nat.le_refl, Nat.reduceEqDiff, Nat.reduceLeDiff, Nat.add_assoc, Nat.reduceAdd]
  rw [s239_1302 (by simp only [List.map_cons, List.map_nil, List.sum_cons, List.sum_nil, cat_i, cat_r, cat_l, Nat.reduceAdd, Nat.reduceLeDiff])]
  refine (w_put hW) _ (fun v I' hM => ?_)
  simp (disch := first | exact ok_i | exact ok_r | exact ok_n | exact cat_i | exact cat_r | exact tag1000 | exact sc20 | exact sc20o | (refine sc_in ?_; omega) | exact ro_1 | omega | assumption | (simp only [List.map_cons, List.map_nil, List.sum_cons, List.sum_nil, cat_i, cat_r, cat_l, Nat.reduceAdd, Nat.reduceLeDiff]; done) | decide) only [s239_1305, s239_1306, s239_1307, s239_1308, s239_1309, s239_1310R, s239_1311, s239_1312, s239_1313, s239_1314, s239_1315R, s239_1316, s239_1317, s239_1318, s239_1319, s239_1320R, tl_s, tl_n, nI_add, pk_mul, i_cl, row_s, u2_row, i_le, i_lt, i_eq, if_true, if_false, Nat.le_refl, Nat.reduceEqDiff, Nat.reduceLeDiff, Nat.add_assoc, Nat.reduceAdd]
  rw [s239_1321 (by simp only [List.map_cons, List.map_nil, List.sum_cons, List.sum_nil, cat_i, cat_r, cat_l, Nat.reduceAdd, Nat.reduceLeDiff])]
  refine hM _ (fun I'' hW' => ?_)
  simp (disch := first | exact ok_i | exact ok_r | exact ok_n | exact cat_i | exact cat_r | exact tag1000 | exact sc20 | exact sc20o | (refine sc_in ?_; omega) | exact ro_1 | omega | assumption | (simp only [List.map_cons, List.map_nil, List.sum_cons, List.sum_nil, cat_i, cat_r, cat_l, Nat.reduceAdd, Nat.reduceLeDiff]; done) | decide) only [s239_1324, tl_s, tl_n, nI_add, pk_mul, i_cl, row_s, u2_row, i_le, i_lt, i_eq, if_true, if_false, Nat.le_refl, Nat.reduceEqDiff, Nat.reduceLeDiff]
  exact next I'' hW'
theorem lw_35 (hW : Wd n I) (h7 : 7 * n + 7 ≤ X.1) (hX : X.1 ≤ 3584) (next : ∀ I', Wd (n + 1) I' → At X 15 239 1392 [some (.ref 1000), some (.ref 0), some (.ref 102), some (.int (nI (7 * n)))] [] G0 I' Q) :
    At X 15 239 1329 [some (.ref 1000), some (.ref 0), some (.ref 102), some (.int (nI (7 * n)))] [] G0 I Q := by
  simp (disch := first | exact ok_i | exact ok_r | exact ok_n | exact cat_i | exact cat_r | exact tag1000 | exact sc20 | exact sc20o | (refine sc_in ?_; omega) | exact ro_1 | omega | assumption | (simp only [List.map_cons, List.map_nil, List.sum_cons, List.sum_nil, cat_i, cat_r, cat_l, Nat.reduceAdd, Nat.reduceLeDiff]; done) | decide) only [s239_1329, s239_1330, s239_1331, s239_1332, s239_1333, s239_1334R, s239_1335, s239_1336, s239_1337, s239_1338, s239_1339R, s239_1340, s239_1341, s239_1342, s239_1343, s239_1344R, s239_1345, s239_1346, s239_1347, s239_1348, s239_1349R, s239_1350, s239_1351, s239_1352, s239_1353, s239_1354R, tl_s, tl_n, nI_add, pk_mul, i_cl, row_s, u2_row, i_le, i_lt, i_eq, if_true, if_false, Nat.le_refl, Nat.reduceEqDiff, Nat.reduceLeDiff, Nat.add_assoc, Nat.reduceAdd]
  rw [s239_1355 (by simp only [List.map_cons, List.map_nil, List.sum_cons, List.sum_nil, cat_i, cat_r, cat_l, Nat.reduceAdd, Nat.reduceLeDiff])]
  refine (w_copy hW) _ (fun v I' hM => ?_)
  simp (disch := first | exact ok_i | exact ok_r | exact ok_n | exact cat_i | exact cat_r | exact tag1000 | exact sc20 | exact sc20o | (refine sc_in ?_; omega) | exact ro_1 | omega | assumption | (simp only [List.map_cons, List.map_nil, List.sum_cons, List.sum_nil, cat_i, cat_r, cat_l, Nat.reduceAdd, Nat.reduceLeDiff]; done) | decide) only [s239_1358, s239_1359, s239_1360, s239_1361, s239_1362, s239_1363R, s239_1364, s239_1365, s239_1366, s239_1367, s239_1368R, s239_1369, s239_1370, s239_1371, s239_1372, s239_1373R, s239_1374, s239_1375, s239_1376, s239_1377, s239_1378R, s239_1379, s239_1380, s239_1381, s239_1382, s239_1383R, tl_s, tl_n, nI_add, pk_mul, i_cl, row_s, u2_row, i_le, i_lt, i_eq, if_true, if_false, Nat.le_refl, Nat.reduceEqDiff, Nat.reduceLeDiff, Nat.add_assoc, Nat.reduceAdd]
  rw [s239_1384 (by simp only [List.map_cons, List.map_nil, List.sum_cons, List.sum_nil, cat_i, cat_r, cat_l, Nat.reduceAdd, Nat.reduceLeDiff])]
  refine hM _ (fun I'' hW' => ?_)
  simp (disch := first | exact ok_i | exact ok_r | exact ok_n | exact cat_i | exact cat_r | exact tag1000 | exact sc20 | exact sc20o | (refine sc_in ?_; omega) | exact ro_1 | omega | assumption | (simp only [List.map_cons, List.map_nil, List.sum_cons, List.sum_nil, cat_i, cat_r, cat_l, Nat.reduceAdd, Nat.reduceLeDiff]; done) | decide) only [s239_1387, tl_s, tl_n, nI_add, pk_mul, i_cl, row_s, u2_row, i_le, i_lt, i_eq, if_true, if_false, Nat.le_refl, Nat.reduceEqDiff, Nat.reduceLeDiff]
  exact next I'' hW'
theorem law_body (hW : Wd n I) (h7 : 7 * n + 7 ≤ X.1) (hX : X.1 ≤ 3584) (next : ∀ I', Wd (n + 1) I' → At X 15 239 1392 [some (.ref 1000), some (.ref 0), some (.ref 102), some (.int (nI (7 * n)))] [] G0 I' Q) :
    At X 15 239 27 [some (.ref 1000), some (.ref 0), some (.ref 102), some (.int (nI (7 * n)))] [] G0 I Q := by
  simp (disch := first | exact ok_i | exact ok_r | exact ok_n | exact cat_i | exact cat_r | exact tag1000 | exact sc20 | exact sc20o | (refine sc_in ?_; omega) | exact ro_1 | omega | assumption | (simp only [List.map_cons, List.map_nil, List.sum_cons, List.sum_nil, cat_i, cat_r, cat_l, Nat.reduceAdd, Nat.reduceLeDiff]; done) | decide) only [s239_27, s239_28, s239_29R, s239_30, s239_32, tl_s, tl_n, nI_add, pk_mul, i_cl, row_s, u2_row, i_le, i_lt, i_eq, if_true, if_false, Nat.le_refl, Nat.reduceEqDiff, Nat.reduceLeDiff]
  generalize roI X 1000 (7 * n) &&& nI 63 = o
  rw [s239_33]
  by_cases k0 : o = nI 0
  · rw [if_pos k0]; exact lw_0 hW h7 hX next
  rw [if_neg k0]
  by_cases k1 : o = nI 1
  · rw [if_pos k1]; exact lw_1 hW h7 hX next
  rw [if_neg k1]
  by_cases k2 : o = nI 2
  · rw [if_pos k2]; exact lw_2 hW h7 hX next
  rw [if_neg k2]
  by_cases k3 : o = nI 3
  · rw [if_pos k3]; exact lw_3 hW h7 hX next
  rw [if_neg k3]
  by_cases k4 : o = nI 4
  · rw [if_pos k4]; exact lw_4 hW h7 hX next
  rw [if_neg k4]
  by_cases k5 : o = nI 5
  · rw [if_pos k5]; exact lw_5 hW h7 hX next
  rw [if_neg k5]
  by_cases k6 : o = nI 6
  · rw [if_pos k6]; exact lw_6 hW h7 hX next
  rw [if_neg k6]
  by_cases k7 : o = nI 7
  · rw [if_pos k7]; exact lw_7 hW h7 hX next
  rw [if_neg k7]
  by_cases k8 : o = nI 8
  · rw [if_pos k8]; exact lw_8 hW h7 hX next
  rw [if_neg k8]
  by_cases k9 : o = nI 9
  · rw [if_pos k9]; exact lw_9 hW h7 hX next
  rw [if_neg k9]
  by_cases k10 : o = nI 10
  · rw [if_pos k10]; exact lw_10 hW h7 hX next
  rw [if_neg k10]
  by_cases k11 : o = nI 11
  · rw [if_pos k11]; exact lw_11 hW h7 hX next
  rw [if_neg k11]
  by_cases k12 : o = nI 12
  · rw [if_pos k12]; exact lw_12 hW h7 hX next
  rw [if_neg k12]
  by_cases k13 : o = nI 13
  · rw [if_pos k13]; exact lw_13 hW h7 hX next
  rw [if_neg k13]
  by_cases k14 : o = nI 14
  · rw [if_pos k14]; exact lw_14 hW h7 hX next
  rw [if_neg k14]
  by_cases k15 : o = nI 15
  · rw [if_pos k15]; exact lw_15 hW h7 hX next
  rw [if_neg k15]
  by_cases k16 : o = nI 16
  · rw [if_pos k16]; exact lw_16 hW h7 hX next
  rw [if_neg k16]
  by_cases k17 : o = nI 17
  · rw [if_pos k17]; exact lw_17 hW h7 hX next
  rw [if_neg k17]
  by_cases k18 : o = nI 18
  · rw [if_pos k18]; exact lw_18 hW h7 hX next
  rw [if_neg k18]
  by_cases k19 : o = nI 19
  · rw [if_pos k19]; exact lw_19 hW h7 hX next
  rw [if_neg k19]
  by_cases k20 : o = nI 20
  · rw [if_pos k20]; exact lw_20 hW h7 hX next
  rw [if_neg k20]
  by_cases k21 : o = nI 21
  · rw [if_pos k21]; exact lw_21 hW h7 hX next
  rw [if_neg k21]
  by_cases k22 : o = nI 22
  · rw [if_pos k22]; exact lw_22 hW h7 hX next
  rw [if_neg k22]
  by_cases k23 : o = nI 23
  · rw [if_pos k23]; exact lw_23 hW h7 hX next
  rw [if_neg k23]
  by_cases k24 : o = nI 24
  · rw [if_pos k24]; exact lw_24 hW h7 hX next
  rw [if_neg k24]
  by_cases k25 : o = nI 25
  · rw [if_pos k25]; exact lw_25 hW h7 hX next
  rw [if_neg k25]
  by_cases k26 : o = nI 26
  · rw [if_pos k26]; exact lw_26 hW h7 hX next
  rw [if_neg k26]
  by_cases k27 : o = nI 27
  · rw [if_pos k27]; exact lw_27 hW h7 hX next
  rw [if_neg k27]
  by_cases k28 : o = nI 28
  · rw [if_pos k28]; exact lw_28 hW h7 hX next
  rw [if_neg k28]
  by_cases k29 : o = nI 29
  · rw [if_pos k29]; exact lw_29 hW h7 hX next
  rw [if_neg k29]
  by_cases k30 : o = nI 30
  · rw [if_pos k30]; exact lw_30 hW h7 hX next
  rw [if_neg k30]
  by_cases k31 : o = nI 31
  · rw [if_pos k31]; exact lw_31 hW h7 hX next
  rw [if_neg k31]
  by_cases k32 : o = nI 32
  · rw [if_pos k32]; exact lw_32 hW h7 hX next
  rw [if_neg k32]
  by_cases k33 : o = nI 33
  · rw [if_pos k33]; exact lw_33 hW h7 hX next
  rw [if_neg k33]
  by_cases k34 : o = nI 34
  · rw [if_pos k34]; exact lw_34 hW h7 hX next
  rw [if_neg k34]
  by_cases k35 : o = nI 35
  · rw [if_pos k35]; exact lw_35 hW h7 hX next
  rw [if_neg k35]
  exact next I (hW.mono (by omega))
theorem law_loop (hX : X.1 ≤ 3584) (hQ : ∀ I, Q (some (.int (nI 1))) G0 I) : ∀ r n (I : pI), Wd n I → n + r ≤ 600 → X.1 < 7 * (n + r) + 7 →
    At X 15 239 18 [some (.ref 1000), some (.ref 0), some (.ref 102), some (.int (nI (7 * n)))] [] G0 I Q := by
  intro r
  induction r with
  | zero =>
    intro n I hW hn hr
    have c : X.1 < 7 * n + 7 := by omega
    rw [s239_18]
    simp (disch := first | exact ok_i | exact ok_r | exact ok_n | exact cat_i | exact cat_r | exact tag1000 | exact sc20 | exact sc20o | (refine sc_in ?_; omega) | exact ro_1 | omega | assumption | (simp only [List.map_cons, List.map_nil, List.sum_cons, List.sum_nil, cat_i, cat_r, cat_l, Nat.reduceAdd, Nat.reduceLeDiff]; done) | decide) only [s239_19, s239_20, s239_21, s239_23, s239_24, s239_1398, s239_1399, tl_s, tl_n, nI_add, pk_mul, i_cl, row_s, u2_row, i_le, i_lt, i_eq, if_true, if_false, Nat.le_refl, Nat.reduceEqDiff, Nat.reduceLeDiff, sc_n, sc_c hX (show n ≤ 1000 by omega), c]
    exact hQ I
  | succ r ih =>
    intro n I hW hn hr
    rw [s239_18]
    by_cases c : X.1 < 7 * n + 7
    · simp (disch := first | exact ok_i | exact ok_r | exact ok_n | exact cat_i | exact cat_r | exact tag1000 | exact sc20 | exact sc20o | (refine sc_in ?_; omega) | exact ro_1 | omega | assumption | (simp only [List.map_cons, List.map_nil, List.sum_cons, List.sum_nil, cat_i, cat_r, cat_l, Nat.reduceAdd, Nat.reduceLeDiff]; done) | decide) only [s239_19, s239_20, s239_21, s239_23, s239_24, s239_1398, s239_1399, tl_s, tl_n, nI_add, pk_mul, i_cl, row_s, u2_row, i_le, i_lt, i_eq, if_true, if_false, Nat.le_refl, Nat.reduceEqDiff, Nat.reduceLeDiff, sc_n, sc_c hX (show n ≤ 1000 by omega), c]
      exact hQ I
    · simp (disch := first | exact ok_i | exact ok_r | exact ok_n | exact cat_i | exact cat_r | exact tag1000 | exact sc20 | exact sc20o | (refine sc_in ?_; omega) | exact ro_1 | omega | assumption | (simp only [List.map_cons, List.map_nil, List.sum_cons, List.sum_nil, cat_i, cat_r, cat_l, Nat.reduceAdd, Nat.reduceLeDiff]; done) | decide) only [s239_19, s239_20, s239_21, s239_23, s239_24, tl_s, tl_n, nI_add, pk_mul, i_cl, row_s, u2_row, i_le, i_lt, i_eq, if_true, if_false, Nat.le_refl, Nat.reduceEqDiff, Nat.reduceLeDiff, sc_n, sc_c hX (show n ≤ 1000 by omega), c]
      refine law_body hW (by omega) hX (fun I' hW' => ?_)
      simp (disch := first | exact ok_i | exact ok_r | exact ok_n | exact cat_i | exact cat_r | exact tag1000 | exact sc20 | exact sc20o | (refine sc_in ?_; omega) | exact ro_1 | omega | assumption | (simp only [List.map_cons, List.map_nil, List.sum_cons, List.sum_nil, cat_i, cat_r, cat_l, Nat.reduceAdd, Nat.reduceLeDiff]; done) | decide) only [s239_1392, s239_1395, tl_s, tl_n, nI_add, pk_mul, i_cl, row_s, u2_row, i_le, i_lt, i_eq, if_true, if_false, Nat.le_refl, Nat.reduceEqDiff, Nat.reduceLeDiff]
      exact ih (n + 1) I' hW' (by omega) (by omega)
end
