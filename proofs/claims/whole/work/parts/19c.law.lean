/-! the law: the steps, 0 -/
set_option maxRecDepth 20000 in
theorem opL_0 {xs : Nat → Int32} {L : Nat} {i : Int} {I σ : Nat → Int → Int} {P : Int → Nat} {dr g : Nat} (i0 : 0 ≤ i) (i1 : i + 7 ≤ L) (hg : g + 1 < 1000) (hI : InvL I σ P dr g) (ih : ∀ (J σ : Nat → Int → Int) (P : Int → Nat) (dr : Nat), InvL J σ P dr (g + 1) → wp (mcall MT CD 100) (cM xs L) limL QL 1195 [vr 1, vr 16, vr 127, vi i] [] (S0, J, RR P dr)) : wp (mcall MT CD 100) (cM xs L) limL QL 188 [vr 1, vr 16, vr 127, vi i] [] (S0, I, RR P dr) := by
  obtain ⟨hs, hW, hG, hX⟩ := id hI
  refine s_ald (cn rfl kL_188) rfl ?_
  refine argL (cn rfl kL_189) (cn rfl kL_190) (cn rfl kL_191) (cn rfl kL_192) (cn rfl kL_193) (by omega) (by omega) ?_
  refine s_inv1 (lm := L0) (cn rfl kL_194) rfl (Nat.le_of_ble_eq_true rfl) limL_ok (k91 (d := 98) hG hW agR) (fun o h1 hq => ?_)
  obtain ⟨J, rfl, rfl, qG, qK⟩ := hq
  refine s_ald (cn rfl kL_197) rfl ?_
  refine argL (cn rfl kL_198) (cn rfl kL_199) (cn rfl kL_200) (cn rfl kL_201) (cn rfl kL_202) (by omega) (by omega) ?_
  refine s_inv1 (lm := L0) (cn rfl kL_203) rfl (Nat.le_of_ble_eq_true rfl) limL_ok (r141 (d := 98) (hI.sk qK) hW agR) (fun o h1 hq => ?_)
  obtain ⟨J2, rfl, rfl, q1, q2⟩ := hq
  exact s_sam (cq rfl) (ih _ _ _ _ (hI.nx (go_Slo hW) qG qK q1 q2))
set_option maxRecDepth 20000 in
theorem opL_1 {xs : Nat → Int32} {L : Nat} {i : Int} {I σ : Nat → Int → Int} {P : Int → Nat} {dr g : Nat} (i0 : 0 ≤ i) (i1 : i + 7 ≤ L) (hg : g + 1 < 1000) (hI : InvL I σ P dr g) (ih : ∀ (J σ : Nat → Int → Int) (P : Int → Nat) (dr : Nat), InvL J σ P dr (g + 1) → wp (mcall MT CD 100) (cM xs L) limL QL 1195 [vr 1, vr 16, vr 127, vi i] [] (S0, J, RR P dr)) : wp (mcall MT CD 100) (cM xs L) limL QL 211 [vr 1, vr 16, vr 127, vi i] [] (S0, I, RR P dr) := by
  obtain ⟨hs, hW, hG, hX⟩ := id hI
  refine s_ald (cn rfl kL_211) rfl ?_
  refine argL (cn rfl kL_212) (cn rfl kL_213) (cn rfl kL_214) (cn rfl kL_215) (cn rfl kL_216) (by omega) (by omega) ?_
  refine argL (cn rfl kL_217) (cn rfl kL_218) (cn rfl kL_219) (cn rfl kL_220) (cn rfl kL_221) (by omega) (by omega) ?_
  refine argL (cn rfl kL_222) (cn rfl kL_223) (cn rfl kL_224) (cn rfl kL_225) (cn rfl kL_226) (by omega) (by omega) ?_
  refine s_inv3 (lm := L0) (cn rfl kL_227) rfl (Nat.le_of_ble_eq_true rfl) limL_ok (k92 (d := 98) hG hW agR agR agR) (fun o h1 hq => ?_)
  obtain ⟨J, rfl, rfl, qG, qK⟩ := hq
  refine s_ald (cn rfl kL_230) rfl ?_
  refine argL (cn rfl kL_231) (cn rfl kL_232) (cn rfl kL_233) (cn rfl kL_234) (cn rfl kL_235) (by omega) (by omega) ?_
  refine argL (cn rfl kL_236) (cn rfl kL_237) (cn rfl kL_238) (cn rfl kL_239) (cn rfl kL_240) (by omega) (by omega) ?_
  refine argL (cn rfl kL_241) (cn rfl kL_242) (cn rfl kL_243) (cn rfl kL_244) (cn rfl kL_245) (by omega) (by omega) ?_
  refine s_inv3 (lm := L0) (cn rfl kL_246) rfl (Nat.le_of_ble_eq_true rfl) limL_ok (r142 (d := 98) (hI.sk qK) hW agR agR agR) (fun o h1 hq => ?_)
  obtain ⟨J2, rfl, rfl, q1, q2⟩ := hq
  exact s_sam (cq rfl) (ih _ _ _ _ (hI.nx (go_Tgt hW) qG qK q1 q2))
set_option maxRecDepth 20000 in
theorem opL_2 {xs : Nat → Int32} {L : Nat} {i : Int} {I σ : Nat → Int → Int} {P : Int → Nat} {dr g : Nat} (i0 : 0 ≤ i) (i1 : i + 7 ≤ L) (hg : g + 1 < 1000) (hI : InvL I σ P dr g) (ih : ∀ (J σ : Nat → Int → Int) (P : Int → Nat) (dr : Nat), InvL J σ P dr (g + 1) → wp (mcall MT CD 100) (cM xs L) limL QL 1195 [vr 1, vr 16, vr 127, vi i] [] (S0, J, RR P dr)) : wp (mcall MT CD 100) (cM xs L) limL QL 254 [vr 1, vr 16, vr 127, vi i] [] (S0, I, RR P dr) := by
  obtain ⟨hs, hW, hG, hX⟩ := id hI
  refine s_ald (cn rfl kL_254) rfl ?_
  refine argL (cn rfl kL_255) (cn rfl kL_256) (cn rfl kL_257) (cn rfl kL_258) (cn rfl kL_259) (by omega) (by omega) ?_
  refine argL (cn rfl kL_260) (cn rfl kL_261) (cn rfl kL_262) (cn rfl kL_263) (cn rfl kL_264) (by omega) (by omega) ?_
  refine s_inv2 (lm := L0) (cn rfl kL_265) rfl (Nat.le_of_ble_eq_true rfl) limL_ok (k93 (d := 96) hG hW agR agR) (fun o h1 hq => ?_)
  obtain ⟨J, rfl, rfl, qG, qK⟩ := hq
  refine s_ald (cn rfl kL_268) rfl ?_
  refine argL (cn rfl kL_269) (cn rfl kL_270) (cn rfl kL_271) (cn rfl kL_272) (cn rfl kL_273) (by omega) (by omega) ?_
  refine argL (cn rfl kL_274) (cn rfl kL_275) (cn rfl kL_276) (cn rfl kL_277) (cn rfl kL_278) (by omega) (by omega) ?_
  refine s_inv2 (lm := L0) (cn rfl kL_279) rfl (Nat.le_of_ble_eq_true rfl) limL_ok (r145 (d := 96) (hI.sk qK) hW agR agR) (fun o h1 hq => ?_)
  obtain ⟨J2, rfl, rfl, q1, q2⟩ := hq
  exact s_sam (cq rfl) (ih _ _ _ _ (hI.nx (go_Air hW) qG qK q1 q2))
set_option maxRecDepth 20000 in
theorem opL_3 {xs : Nat → Int32} {L : Nat} {i : Int} {I σ : Nat → Int → Int} {P : Int → Nat} {dr g : Nat} (i0 : 0 ≤ i) (i1 : i + 7 ≤ L) (hg : g + 1 < 1000) (hI : InvL I σ P dr g) (ih : ∀ (J σ : Nat → Int → Int) (P : Int → Nat) (dr : Nat), InvL J σ P dr (g + 1) → wp (mcall MT CD 100) (cM xs L) limL QL 1195 [vr 1, vr 16, vr 127, vi i] [] (S0, J, RR P dr)) : wp (mcall MT CD 100) (cM xs L) limL QL 287 [vr 1, vr 16, vr 127, vi i] [] (S0, I, RR P dr) := by
  obtain ⟨hs, hW, hG, hX⟩ := id hI
  refine s_ald (cn rfl kL_287) rfl ?_
  refine argL (cn rfl kL_288) (cn rfl kL_289) (cn rfl kL_290) (cn rfl kL_291) (cn rfl kL_292) (by omega) (by omega) ?_
  refine argL (cn rfl kL_293) (cn rfl kL_294) (cn rfl kL_295) (cn rfl kL_296) (cn rfl kL_297) (by omega) (by omega) ?_
  refine argL (cn rfl kL_298) (cn rfl kL_299) (cn rfl kL_300) (cn rfl kL_301) (cn rfl kL_302) (by omega) (by omega) ?_
  refine s_inv3 (lm := L0) (cn rfl kL_303) rfl (Nat.le_of_ble_eq_true rfl) limL_ok (k94 (d := 98) hG hW agR agR agR) (fun o h1 hq => ?_)
  obtain ⟨J, rfl, rfl, qG, qK⟩ := hq
  refine s_ald (cn rfl kL_306) rfl ?_
  refine argL (cn rfl kL_307) (cn rfl kL_308) (cn rfl kL_309) (cn rfl kL_310) (cn rfl kL_311) (by omega) (by omega) ?_
  refine argL (cn rfl kL_312) (cn rfl kL_313) (cn rfl kL_314) (cn rfl kL_315) (cn rfl kL_316) (by omega) (by omega) ?_
  refine argL (cn rfl kL_317) (cn rfl kL_318) (cn rfl kL_319) (cn rfl kL_320) (cn rfl kL_321) (by omega) (by omega) ?_
  refine s_inv3 (lm := L0) (cn rfl kL_322) rfl (Nat.le_of_ble_eq_true rfl) limL_ok (r146 (d := 97) (hI.sk qK) hW agR agR agR) (fun o h1 hq => ?_)
  obtain ⟨J2, rfl, rfl, q1, q2⟩ := hq
  exact s_sam (cq rfl) (ih _ _ _ _ (hI.nx (go_Moon hW) qG qK q1 q2))
set_option maxRecDepth 20000 in
theorem opL_4 {xs : Nat → Int32} {L : Nat} {i : Int} {I σ : Nat → Int → Int} {P : Int → Nat} {dr g : Nat} (i0 : 0 ≤ i) (i1 : i + 7 ≤ L) (hg : g + 1 < 1000) (hI : InvL I σ P dr g) (ih : ∀ (J σ : Nat → Int → Int) (P : Int → Nat) (dr : Nat), InvL J σ P dr (g + 1) → wp (mcall MT CD 100) (cM xs L) limL QL 1195 [vr 1, vr 16, vr 127, vi i] [] (S0, J, RR P dr)) : wp (mcall MT CD 100) (cM xs L) limL QL 330 [vr 1, vr 16, vr 127, vi i] [] (S0, I, RR P dr) := by
  obtain ⟨hs, hW, hG, hX⟩ := id hI
  refine s_ald (cn rfl kL_330) rfl ?_
  refine argL (cn rfl kL_331) (cn rfl kL_332) (cn rfl kL_333) (cn rfl kL_334) (cn rfl kL_335) (by omega) (by omega) ?_
  refine argL (cn rfl kL_336) (cn rfl kL_337) (cn rfl kL_338) (cn rfl kL_339) (cn rfl kL_340) (by omega) (by omega) ?_
  refine argL (cn rfl kL_341) (cn rfl kL_342) (cn rfl kL_343) (cn rfl kL_344) (cn rfl kL_345) (by omega) (by omega) ?_
  refine s_inv3 (lm := L0) (cn rfl kL_346) rfl (Nat.le_of_ble_eq_true rfl) limL_ok (k95 (d := 98) hG hW agR agR agR) (fun o h1 hq => ?_)
  obtain ⟨J, rfl, rfl, qG, qK⟩ := hq
  refine s_ald (cn rfl kL_349) rfl ?_
  refine argL (cn rfl kL_350) (cn rfl kL_351) (cn rfl kL_352) (cn rfl kL_353) (cn rfl kL_354) (by omega) (by omega) ?_
  refine argL (cn rfl kL_355) (cn rfl kL_356) (cn rfl kL_357) (cn rfl kL_358) (cn rfl kL_359) (by omega) (by omega) ?_
  refine argL (cn rfl kL_360) (cn rfl kL_361) (cn rfl kL_362) (cn rfl kL_363) (cn rfl kL_364) (by omega) (by omega) ?_
  refine s_inv3 (lm := L0) (cn rfl kL_365) rfl (Nat.le_of_ble_eq_true rfl) limL_ok (r147 (d := 97) (hI.sk qK) hW agR agR agR) (fun o h1 hq => ?_)
  obtain ⟨J2, rfl, rfl, q1, q2⟩ := hq
  exact s_sam (cq rfl) (ih _ _ _ _ (hI.nx (go_See hW) qG qK q1 q2))
set_option maxRecDepth 20000 in
theorem opL_5 {xs : Nat → Int32} {L : Nat} {i : Int} {I σ : Nat → Int → Int} {P : Int → Nat} {dr g : Nat} (i0 : 0 ≤ i) (i1 : i + 7 ≤ L) (hg : g + 1 < 1000) (hI : InvL I σ P dr g) (ih : ∀ (J σ : Nat → Int → Int) (P : Int → Nat) (dr : Nat), InvL J σ P dr (g + 1) → wp (mcall MT CD 100) (cM xs L) limL QL 1195 [vr 1, vr 16, vr 127, vi i] [] (S0, J, RR P dr)) : wp (mcall MT CD 100) (cM xs L) limL QL 373 [vr 1, vr 16, vr 127, vi i] [] (S0, I, RR P dr) := by
  obtain ⟨hs, hW, hG, hX⟩ := id hI
  refine s_ald (cn rfl kL_373) rfl ?_
  refine argL (cn rfl kL_374) (cn rfl kL_375) (cn rfl kL_376) (cn rfl kL_377) (cn rfl kL_378) (by omega) (by omega) ?_
  refine s_inv1 (lm := L0) (cn rfl kL_379) rfl (Nat.le_of_ble_eq_true rfl) limL_ok (k96 (d := 98) hG hW agR) (fun o h1 hq => ?_)
  obtain ⟨J, rfl, rfl, qG, qK⟩ := hq
  refine s_ald (cn rfl kL_382) rfl ?_
  refine argL (cn rfl kL_383) (cn rfl kL_384) (cn rfl kL_385) (cn rfl kL_386) (cn rfl kL_387) (by omega) (by omega) ?_
  refine s_inv1 (lm := L0) (cn rfl kL_388) rfl (Nat.le_of_ble_eq_true rfl) limL_ok (r148 (d := 98) (hI.sk qK) hW agR) (fun o h1 hq => ?_)
  obtain ⟨J2, rfl, rfl, q1, q2⟩ := hq
  exact s_sam (cq rfl) (ih _ _ _ _ (hI.nx (go_Wld hW) qG qK q1 q2))
set_option maxRecDepth 20000 in
theorem opL_6 {xs : Nat → Int32} {L : Nat} {i : Int} {I σ : Nat → Int → Int} {P : Int → Nat} {dr g : Nat} (i0 : 0 ≤ i) (i1 : i + 7 ≤ L) (hg : g + 1 < 1000) (hI : InvL I σ P dr g) (ih : ∀ (J σ : Nat → Int → Int) (P : Int → Nat) (dr : Nat), InvL J σ P dr (g + 1) → wp (mcall MT CD 100) (cM xs L) limL QL 1195 [vr 1, vr 16, vr 127, vi i] [] (S0, J, RR P dr)) : wp (mcall MT CD 100) (cM xs L) limL QL 396 [vr 1, vr 16, vr 127, vi i] [] (S0, I, RR P dr) := by
  obtain ⟨hs, hW, hG, hX⟩ := id hI
  refine s_ald (cn rfl kL_396) rfl ?_
  refine s_inv0 (lm := L0) (cn rfl kL_397) rfl (Nat.le_of_ble_eq_true rfl) limL_ok (k97 (d := 99) hG hW) (fun o h1 hq => ?_)
  obtain ⟨J, rfl, rfl, qG, qK⟩ := hq
  refine s_ald (cn rfl kL_400) rfl ?_
  refine s_inv0 (lm := L0) (cn rfl kL_401) rfl (Nat.le_of_ble_eq_true rfl) limL_ok (r149 (d := 99) (hI.sk qK) hW) (fun o h1 hq => ?_)
  obtain ⟨J2, rfl, rfl, q1, q2⟩ := hq
  exact s_sam (cq rfl) (ih _ _ _ _ (hI.nx (go_Unw hW) qG qK q1 q2))
set_option maxRecDepth 20000 in
theorem opL_7 {xs : Nat → Int32} {L : Nat} {i : Int} {I σ : Nat → Int → Int} {P : Int → Nat} {dr g : Nat} (i0 : 0 ≤ i) (i1 : i + 7 ≤ L) (hg : g + 1 < 1000) (hI : InvL I σ P dr g) (ih : ∀ (J σ : Nat → Int → Int) (P : Int → Nat) (dr : Nat), InvL J σ P dr (g + 1) → wp (mcall MT CD 100) (cM xs L) limL QL 1195 [vr 1, vr 16, vr 127, vi i] [] (S0, J, RR P dr)) : wp (mcall MT CD 100) (cM xs L) limL QL 409 [vr 1, vr 16, vr 127, vi i] [] (S0, I, RR P dr) := by
  obtain ⟨hs, hW, hG, hX⟩ := id hI
  refine s_ald (cn rfl kL_409) rfl ?_
  refine argL (cn rfl kL_410) (cn rfl kL_411) (cn rfl kL_412) (cn rfl kL_413) (cn rfl kL_414) (by omega) (by omega) ?_
  refine s_i2l (cn rfl kL_415) agR ?_
  refine s_push (cn rfl kL_416) ?_
  refine s_lshl (cn rfl kL_418) ?_
  refine argL (cn rfl kL_419) (cn rfl kL_420) (cn rfl kL_421) (cn rfl kL_422) (cn rfl kL_423) (by omega) (by omega) ?_
  refine s_i2l (cn rfl kL_424) agR ?_
  refine s_push (cn rfl kL_425) ?_
  refine s_land (cn rfl kL_428) ?_
  refine s_lor (cn rfl kL_429) ?_
  refine argL (cn rfl kL_430) (cn rfl kL_431) (cn rfl kL_432) (cn rfl kL_433) (cn rfl kL_434) (by omega) (by omega) ?_
  refine s_inv2 (lm := L0) (cn rfl kL_435) rfl (Nat.le_of_ble_eq_true rfl) limL_ok (k98 (d := 98) hG hW agR) (fun o h1 hq => ?_)
  obtain ⟨J, rfl, rfl, qG, qK⟩ := hq
  refine s_ald (cn rfl kL_438) rfl ?_
  refine argL (cn rfl kL_439) (cn rfl kL_440) (cn rfl kL_441) (cn rfl kL_442) (cn rfl kL_443) (by omega) (by omega) ?_
  refine s_i2l (cn rfl kL_444) agR ?_
  refine s_push (cn rfl kL_445) ?_
  refine s_lshl (cn rfl kL_447) ?_
  refine argL (cn rfl kL_448) (cn rfl kL_449) (cn rfl kL_450) (cn rfl kL_451) (cn rfl kL_452) (by omega) (by omega) ?_
  refine s_i2l (cn rfl kL_453) agR ?_
  refine s_push (cn rfl kL_454) ?_
  refine s_land (cn rfl kL_457) ?_
  refine s_lor (cn rfl kL_458) ?_
  refine argL (cn rfl kL_459) (cn rfl kL_460) (cn rfl kL_461) (cn rfl kL_462) (cn rfl kL_463) (by omega) (by omega) ?_
  refine s_inv2 (lm := L0) (cn rfl kL_464) rfl (Nat.le_of_ble_eq_true rfl) limL_ok (r150 (d := 98) (hI.sk qK) hW agR) (fun o h1 hq => ?_)
  obtain ⟨J2, rfl, rfl, q1, q2⟩ := hq
  exact s_sam (cq rfl) (ih _ _ _ _ (hI.nx (go_Wri hW) qG qK q1 q2))
set_option maxRecDepth 20000 in
theorem opL_8 {xs : Nat → Int32} {L : Nat} {i : Int} {I σ : Nat → Int → Int} {P : Int → Nat} {dr g : Nat} (i0 : 0 ≤ i) (i1 : i + 7 ≤ L) (hg : g + 1 < 1000) (hI : InvL I σ P dr g) (ih : ∀ (J σ : Nat → Int → Int) (P : Int → Nat) (dr : Nat), InvL J σ P dr (g + 1) → wp (mcall MT CD 100) (cM xs L) limL QL 1195 [vr 1, vr 16, vr 127, vi i] [] (S0, J, RR P dr)) : wp (mcall MT CD 100) (cM xs L) limL QL 472 [vr 1, vr 16, vr 127, vi i] [] (S0, I, RR P dr) := by
  obtain ⟨hs, hW, hG, hX⟩ := id hI
  refine s_ald (cn rfl kL_472) rfl ?_
  refine s_inv0 (lm := L0) (cn rfl kL_473) rfl (Nat.le_of_ble_eq_true rfl) limL_ok (k99 (d := 99) hG hW) (fun o h1 hq => ?_)
  obtain ⟨J, rfl, rfl, qG, qK⟩ := hq
  refine s_ald (cn rfl kL_476) rfl ?_
  refine s_inv0 (lm := L0) (cn rfl kL_477) rfl (Nat.le_of_ble_eq_true rfl) limL_ok (r151 (d := 99) (hI.sk qK) hW) (fun o h1 hq => ?_)
  obtain ⟨J2, rfl, rfl, q1, q2⟩ := hq
  exact s_sam (cq rfl) (ih _ _ _ _ (hI.nx (go_Era hW) qG qK q1 q2))
