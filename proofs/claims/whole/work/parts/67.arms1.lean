section ARM
variable {p : Program} {l : Launch} {e : Env} {s : State} {m : MethodId} {below : List Frame} {meth : Method} {c : Code} {b L : Nat} {xs : Nat → Int32} {D : va_G} {g : Nat → ClassId} {H : Heap} {locs : List Loc} {i : Nat} {ls : Array Slot} {aX aT aV aI aR aP aE aS0 aS1 aS2 aS3 aM : Nat → Nat} {T : Tb} {V : Tb} {Ln : Nat} {B : Nat → Nat} {N : Nat} {hs : Bool} {cb : Bool} {tc : Int32} {tca : Int32} {tru : Int32} {tdf : Int32} {tsi : Nat → Int32} {tst : Nat → Int32} {tco : Nat → Int32} {twe : Nat → Int32} {tse : Nat → Int32} {tac : Nat → Int32} {trw : Nat → Int32} {vc : Int32} {vca : Int32} {vru : Int32} {vdf : Int32} {vsi : Nat → Int32} {vst : Nat → Int32} {vco : Nat → Int32} {vwe : Nat → Int32} {vse : Nat → Int32} {vac : Nat → Int32} {vrw : Nat → Int32} {il : Int32} {ib : Nat → Int32} {ra : Int32} {rs : Nat → Int32} {rst : Int32} {rc : Int32} {pcu : Int32} {ps : Nat → Int32} {pw : Nat → Int32} {pa : Nat → Int32} {prk : Nat → Int64} {ec : Int32} {ew : Int32} {ex : Int64} {cc : Int32} {et : Nat → Int32} {ea : Nat → Int32} {ee : Nat → Int32} {ed : Nat → Int32} {cl : Nat → Int32} {lo : Nat → Int32} {lf : Nat → Int32} {su : Nat → Bool} {sty : Nat → Int32} {ssz : Nat → Int32} {sel : Nat → Nat → Int64} {mc : Int32} {msi : Nat → Int32} {mwe : Nat → Int32} {mco : Nat → Int32} {mse : Nat → Int32} {mac : Nat → Int32} {mst : Int32} {minp : Nat → Int32} {mr : Nat → Int32} {mra : Int32} {ms : Nat → Int32} {mb : Nat → Int64} {mn : Nat → Int32} {mte : Nat → Int32} {mno : Int32} {mq : Nat → Int32} {ma : Nat → Int32} {mz : Nat → Int32} {md : Nat → Int32} {mp : Nat → Int32} {mex : Int64} {mt : Nat → Int32} {ml : Nat → Int32} {it : Nat → Int64} {mv : Nat → Int64} {kc : Int32} {ksi : Nat → Int32} {kwe : Nat → Int32} {kco : Nat → Int32} {kru : Int32} {kse : Nat → Int32} {kac : Nat → Int32} {kst : Int32}
set_option maxHeartbeats 4000000 in
set_option maxRecDepth 100000 in
theorem arm_reset (hC : LC p s m c b L xs D g) (hI : LI s D g aX aT aV aI aR aP aE aS0 aS1 aS2 aS3 aM T V Ln B N hs cb tc tca tru tdf tsi tst tco twe tse tac trw vc vca vru vdf vsi vst vco vwe vse vac vrw il ib ra rs rst rc pcu ps pw pa prk ec ew ex cc et ea ee ed cl lo lf su sty ssz sel mc msi mwe mco mse mac mst minp mr mra ms mb mn mte mno mq ma mz md mp mex mt ml it mv kc ksi kwe kco kru kse kac kst H locs) (hl : lv_has ls 4 [(3, .int (nI i)), (2, .ref (aM 0)), (1, .ref (aX 0)), (0, .ref b)]) (hi : i + 6 ≤ L) (kk : LK p l e s m below meth c b D g aX aT aV aI aR aP aE aS0 aS1 aS2 aS3 aM ls) : LW p l e s m below meth c b H locs 232 ls [] := by
  obtain ⟨⟨hTk, hX, hM⟩, hV, hI, hR, hN, hSL, hT, hS⟩ := hI
  have hC0 := hC
  obtain ⟨hx, hb, hml, hown, hts, hXs, hbl, hK, hL⟩ := hC0
  have hA : ∀ q : Nat, s.heap.size ≤ q → (fun q : Nat => s.heap.size ≤ q) q := fun _ h => h
  obtain ⟨r, cb2, tc2, tca2, tru2, tdf2, tsi2, tst2, tco2, twe2, trw2, msi2, mwe2, mco2, T2, e1, e2, hT2, hX2, hM2, hcb⟩ := sim_reset hTk hX hM cb (xs (i + 1)) (xs (i + 2)) (xs (i + 3)) (xs (i + 4))
  refine lv_aload_n hx hb dL_law_232 rfl (lv_at hl 2 rfl) ?_
  refine arg1 hC hS hl hi dL_law_233 dL_law_234 dL_law_235 dL_law_236 dL_law_237 ?_
  refine arg2 hC hS hl hi dL_law_238 dL_law_239 dL_law_240 dL_law_241 dL_law_242 ?_
  refine arg3 hC hS hl hi dL_law_243 dL_law_244 dL_law_245 dL_law_246 dL_law_247 ?_
  refine arg4 hC hS hl hi dL_law_248 dL_law_249 dL_law_250 dL_law_251 dL_law_252 ?_
  refine tw_i (va_runV (As := [.int (xs (i + 1)), .int (xs (i + 2)), .int (xs (i + 3)), .int (xs (i + 4))]) (rest := []) ⟨hx, hb, hml, hown, hts⟩ (c_X6_reset l H.size D g aX aT aV aI aR aP aE aS0 aS1 aS2 aS3 hs cb tc tca tru tdf tsi tst tco twe tse tac trw vc vca vru vdf vsi vst vco vwe vse vac vrw il ib ra rs rst rc pcu ps pw pa prk ec ew ex cc et ea ee ed cl lo lf (su 0) (sty 0) (ssz 0) (sel 0) (su 1) (sty 1) (ssz 1) (sel 1) (su 2) (sty 2) (ssz 2) (sel 2) (su 3) (sty 3) (ssz 3) (sel 3) (xs (i + 1)) (xs (i + 2)) (xs (i + 3)) (xs (i + 4)) r cb2 tc2 tca2 tru2 tdf2 tsi2 tst2 tco2 twe2 trw2 e1) (cwV 4 hts gL_law_X6_reset rfl rfl rfl ⟨rfl, pd_X6_reset⟩ ⟨Nat.le_of_ble_eq_true rfl, Nat.le_of_ble_eq_true rfl⟩) (pw_v hK hT.1 hT.2.2.1 (q0 := 0) (ci := 6) rfl rfl rfl) rfl rfl hl.1 rfl (lv_room (Nat.le_of_ble_eq_true rfl)) dL_law_253 ⟨Nat.le_of_ble_eq_true rfl, Nat.le_of_ble_eq_true rfl⟩) hT hS hA (fun H locs hT hS => ?_)
  refine lv_aload_n hx hb dL_law_256 rfl (lv_at hl 1 rfl) ?_
  refine arg1 hC hS hl hi dL_law_257 dL_law_258 dL_law_259 dL_law_260 dL_law_261 ?_
  refine arg2 hC hS hl hi dL_law_262 dL_law_263 dL_law_264 dL_law_265 dL_law_266 ?_
  refine arg3 hC hS hl hi dL_law_267 dL_law_268 dL_law_269 dL_law_270 dL_law_271 ?_
  refine arg4 hC hS hl hi dL_law_272 dL_law_273 dL_law_274 dL_law_275 dL_law_276 ?_
  refine tw_i (va_runV (As := [.int (xs (i + 1)), .int (xs (i + 2)), .int (xs (i + 3)), .int (xs (i + 4))]) (rest := [.int r]) ⟨hx, hb, hml, hown, hts⟩ (c_X7_reset l H.size D g aM mc msi mwe mco tru mse mac mst cb minp il mr mra ms mb mn mte mno mq ma mz md mp mex mt ml it mv hs kc ksi kwe kco kru kse kac kst (xs (i + 1)) (xs (i + 2)) (xs (i + 3)) (xs (i + 4)) r tc2 msi2 mwe2 mco2 tru2 tdf2 cb2 e2) (cwV 4 hts gL_law_X7_reset rfl rfl rfl ⟨rfl, pd_X7_reset⟩ ⟨Nat.le_of_ble_eq_true rfl, Nat.le_of_ble_eq_true rfl⟩) (pw_v hK hT.2.1 hT.2.2.2.1 (q0 := 0) (ci := 7) rfl rfl rfl) rfl rfl hl.1 rfl (lv_room (Nat.le_of_ble_eq_true rfl)) dL_law_277 ⟨Nat.le_of_ble_eq_true rfl, Nat.le_of_ble_eq_true rfl⟩) hT.swap hS hA (fun H locs hT hS => ?_)
  replace hT := hT.swap
  refine lv_icmp_eq (tgt := 1394) hx hb dL_law_280 (by decide) (fun _ => ?_) (fun q => absurd rfl q)
  exact kk T2 V Ln B N hs cb2 tc2 tca2 tru2 tdf2 tsi2 tst2 tco2 twe2 tse tac trw2 vc vca vru vdf vsi vst vco vwe vse vac vrw il ib ra rs rst rc pcu ps pw pa prk ec ew ex cc et ea ee ed cl lo lf su sty ssz sel tc2 msi2 mwe2 mco2 mse mac tdf2 minp mr mra ms mb mn mte mno mq ma mz md mp mex mt ml it mv kc ksi kwe kco kru kse kac kst H locs ⟨⟨hT2, hX2, hM2⟩, hV, hI, (fun w => by obtain ⟨w1, w2⟩ := hcb w; rw [w2]; exact hR w1), hN, hSL, hT, hS⟩
set_option maxHeartbeats 4000000 in
set_option maxRecDepth 100000 in
theorem arm_conditionCount (hC : LC p s m c b L xs D g) (hI : LI s D g aX aT aV aI aR aP aE aS0 aS1 aS2 aS3 aM T V Ln B N hs cb tc tca tru tdf tsi tst tco twe tse tac trw vc vca vru vdf vsi vst vco vwe vse vac vrw il ib ra rs rst rc pcu ps pw pa prk ec ew ex cc et ea ee ed cl lo lf su sty ssz sel mc msi mwe mco mse mac mst minp mr mra ms mb mn mte mno mq ma mz md mp mex mt ml it mv kc ksi kwe kco kru kse kac kst H locs) (hl : lv_has ls 4 [(3, .int (nI i)), (2, .ref (aM 0)), (1, .ref (aX 0)), (0, .ref b)]) (hi : i + 6 ≤ L) (kk : LK p l e s m below meth c b D g aX aT aV aI aR aP aE aS0 aS1 aS2 aS3 aM ls) : LW p l e s m below meth c b H locs 285 ls [] := by
  obtain ⟨⟨hTk, hX, hM⟩, hV, hI, hR, hN, hSL, hT, hS⟩ := hI
  have hC0 := hC
  obtain ⟨hx, hb, hml, hown, hts, hXs, hbl, hK, hL⟩ := hC0
  have hA : ∀ q : Nat, s.heap.size ≤ q → (fun q : Nat => s.heap.size ≤ q) q := fun _ h => h
  obtain ⟨r, e1, e2⟩ := eq_conditionCount hX hM
  refine lv_aload_n hx hb dL_law_285 rfl (lv_at hl 2 rfl) ?_
  refine cr_i (va_runV (As := []) (rest := []) ⟨hx, hb, hml, hown, hts⟩ (c_X6_conditionCount l D g aX aT aV aI aR aP aE aS0 aS1 aS2 aS3 hs cb tc tca tru tdf tsi tst tco twe tse tac trw vc vca vru vdf vsi vst vco vwe vse vac vrw il ib ra rs rst rc pcu ps pw pa prk ec ew ex cc et ea ee ed cl lo lf (su 0) (sty 0) (ssz 0) (sel 0) (su 1) (sty 1) (ssz 1) (sel 1) (su 2) (sty 2) (ssz 2) (sel 2) (su 3) (sty 3) (ssz 3) (sel 3)  r e1) (cwV 0 hts gL_law_X6_conditionCount rfl rfl rfl ⟨rfl, pd_X6_conditionCount⟩ ⟨Nat.le_of_ble_eq_true rfl, Nat.le_of_ble_eq_true rfl⟩) (pr_v hK hT.1 (q0 := 0) (ci := 6) rfl rfl rfl) rfl rfl hl.1 rfl (lv_room (Nat.le_of_ble_eq_true rfl)) dL_law_286 ⟨Nat.le_of_ble_eq_true rfl, Nat.le_of_ble_eq_true rfl⟩) ?_
  refine lv_aload_n hx hb dL_law_289 rfl (lv_at hl 1 rfl) ?_
  refine cr_i (va_runV (As := []) (rest := [.int r]) ⟨hx, hb, hml, hown, hts⟩ (c_X7_conditionCount l D g aM mc msi mwe mco tru mse mac mst cb minp il mr mra ms mb mn mte mno mq ma mz md mp mex mt ml it mv hs kc ksi kwe kco kru kse kac kst  r e2) (cwV 0 hts gL_law_X7_conditionCount rfl rfl rfl ⟨rfl, pd_X7_conditionCount⟩ ⟨Nat.le_of_ble_eq_true rfl, Nat.le_of_ble_eq_true rfl⟩) (pr_v hK hT.2.1 (q0 := 0) (ci := 7) rfl rfl rfl) rfl rfl hl.1 rfl (lv_room (Nat.le_of_ble_eq_true rfl)) dL_law_290 ⟨Nat.le_of_ble_eq_true rfl, Nat.le_of_ble_eq_true rfl⟩) ?_
  refine lv_icmp_eq (tgt := 1394) hx hb dL_law_293 (by decide) (fun _ => ?_) (fun q => absurd rfl q)
  exact kk T V Ln B N hs cb tc tca tru tdf tsi tst tco twe tse tac trw vc vca vru vdf vsi vst vco vwe vse vac vrw il ib ra rs rst rc pcu ps pw pa prk ec ew ex cc et ea ee ed cl lo lf su sty ssz sel mc msi mwe mco mse mac mst minp mr mra ms mb mn mte mno mq ma mz md mp mex mt ml it mv kc ksi kwe kco kru kse kac kst H locs ⟨⟨hTk, hX, hM⟩, hV, hI, hR, hN, hSL, hT, hS⟩
set_option maxHeartbeats 4000000 in
set_option maxRecDepth 100000 in
theorem arm_caseCount (hC : LC p s m c b L xs D g) (hI : LI s D g aX aT aV aI aR aP aE aS0 aS1 aS2 aS3 aM T V Ln B N hs cb tc tca tru tdf tsi tst tco twe tse tac trw vc vca vru vdf vsi vst vco vwe vse vac vrw il ib ra rs rst rc pcu ps pw pa prk ec ew ex cc et ea ee ed cl lo lf su sty ssz sel mc msi mwe mco mse mac mst minp mr mra ms mb mn mte mno mq ma mz md mp mex mt ml it mv kc ksi kwe kco kru kse kac kst H locs) (hl : lv_has ls 4 [(3, .int (nI i)), (2, .ref (aM 0)), (1, .ref (aX 0)), (0, .ref b)]) (hi : i + 6 ≤ L) (kk : LK p l e s m below meth c b D g aX aT aV aI aR aP aE aS0 aS1 aS2 aS3 aM ls) : LW p l e s m below meth c b H locs 298 ls [] := by
  obtain ⟨⟨hTk, hX, hM⟩, hV, hI, hR, hN, hSL, hT, hS⟩ := hI
  have hC0 := hC
  obtain ⟨hx, hb, hml, hown, hts, hXs, hbl, hK, hL⟩ := hC0
  have hA : ∀ q : Nat, s.heap.size ≤ q → (fun q : Nat => s.heap.size ≤ q) q := fun _ h => h
  obtain ⟨r, e1, e2⟩ := eq_caseCount hTk hX hM
  refine lv_aload_n hx hb dL_law_298 rfl (lv_at hl 2 rfl) ?_
  refine cr_i (va_runV (As := []) (rest := []) ⟨hx, hb, hml, hown, hts⟩ (c_X6_caseCount l D g aX aT aV aI aR aP aE aS0 aS1 aS2 aS3 hs cb tc tca tru tdf tsi tst tco twe tse tac trw vc vca vru vdf vsi vst vco vwe vse vac vrw il ib ra rs rst rc pcu ps pw pa prk ec ew ex cc et ea ee ed cl lo lf (su 0) (sty 0) (ssz 0) (sel 0) (su 1) (sty 1) (ssz 1) (sel 1) (su 2) (sty 2) (ssz 2) (sel 2) (su 3) (sty 3) (ssz 3) (sel 3)  r e1) (cwV 0 hts gL_law_X6_caseCount rfl rfl rfl ⟨rfl, pd_X6_caseCount⟩ ⟨Nat.le_of_ble_eq_true rfl, Nat.le_of_ble_eq_true rfl⟩) (pr_v hK hT.1 (q0 := 0) (ci := 6) rfl rfl rfl) rfl rfl hl.1 rfl (lv_room (Nat.le_of_ble_eq_true rfl)) dL_law_299 ⟨Nat.le_of_ble_eq_true rfl, Nat.le_of_ble_eq_true rfl⟩) ?_
  refine lv_aload_n hx hb dL_law_302 rfl (lv_at hl 1 rfl) ?_
  refine cr_i (va_runV (As := []) (rest := [.int r]) ⟨hx, hb, hml, hown, hts⟩ (c_X7_caseCount l D g aM mc msi mwe mco tru mse mac mst cb minp il mr mra ms mb mn mte mno mq ma mz md mp mex mt ml it mv hs kc ksi kwe kco kru kse kac kst  r e2) (cwV 0 hts gL_law_X7_caseCount rfl rfl rfl ⟨rfl, pd_X7_caseCount⟩ ⟨Nat.le_of_ble_eq_true rfl, Nat.le_of_ble_eq_true rfl⟩) (pr_v hK hT.2.1 (q0 := 0) (ci := 7) rfl rfl rfl) rfl rfl hl.1 rfl (lv_room (Nat.le_of_ble_eq_true rfl)) dL_law_303 ⟨Nat.le_of_ble_eq_true rfl, Nat.le_of_ble_eq_true rfl⟩) ?_
  refine lv_icmp_eq (tgt := 1394) hx hb dL_law_306 (by decide) (fun _ => ?_) (fun q => absurd rfl q)
  exact kk T V Ln B N hs cb tc tca tru tdf tsi tst tco twe tse tac trw vc vca vru vdf vsi vst vco vwe vse vac vrw il ib ra rs rst rc pcu ps pw pa prk ec ew ex cc et ea ee ed cl lo lf su sty ssz sel mc msi mwe mco mse mac mst minp mr mra ms mb mn mte mno mq ma mz md mp mex mt ml it mv kc ksi kwe kco kru kse kac kst H locs ⟨⟨hTk, hX, hM⟩, hV, hI, hR, hN, hSL, hT, hS⟩
set_option maxHeartbeats 4000000 in
set_option maxRecDepth 100000 in
theorem arm_valueIn (hC : LC p s m c b L xs D g) (hI : LI s D g aX aT aV aI aR aP aE aS0 aS1 aS2 aS3 aM T V Ln B N hs cb tc tca tru tdf tsi tst tco twe tse tac trw vc vca vru vdf vsi vst vco vwe vse vac vrw il ib ra rs rst rc pcu ps pw pa prk ec ew ex cc et ea ee ed cl lo lf su sty ssz sel mc msi mwe mco mse mac mst minp mr mra ms mb mn mte mno mq ma mz md mp mex mt ml it mv kc ksi kwe kco kru kse kac kst H locs) (hl : lv_has ls 4 [(3, .int (nI i)), (2, .ref (aM 0)), (1, .ref (aX 0)), (0, .ref b)]) (hi : i + 6 ≤ L) (kk : LK p l e s m below meth c b D g aX aT aV aI aR aP aE aS0 aS1 aS2 aS3 aM ls) : LW p l e s m below meth c b H locs 311 ls [] := by
  obtain ⟨⟨hTk, hX, hM⟩, hV, hI, hR, hN, hSL, hT, hS⟩ := hI
  have hC0 := hC
  obtain ⟨hx, hb, hml, hown, hts, hXs, hbl, hK, hL⟩ := hC0
  have hA : ∀ q : Nat, s.heap.size ≤ q → (fun q : Nat => s.heap.size ≤ q) q := fun _ h => h
  obtain ⟨r, e1, e2⟩ := eq_valueIn hTk hX hM (xs (i + 1)) (xs (i + 2))
  refine lv_aload_n hx hb dL_law_311 rfl (lv_at hl 2 rfl) ?_
  refine arg1 hC hS hl hi dL_law_312 dL_law_313 dL_law_314 dL_law_315 dL_law_316 ?_
  refine arg2 hC hS hl hi dL_law_317 dL_law_318 dL_law_319 dL_law_320 dL_law_321 ?_
  refine cr_i (va_runV (As := [.int (xs (i + 1)), .int (xs (i + 2))]) (rest := []) ⟨hx, hb, hml, hown, hts⟩ (c_X6_valueIn l D g aX aT aV aI aR aP aE aS0 aS1 aS2 aS3 hs cb tc tca tru tdf tsi tst tco twe tse tac trw vc vca vru vdf vsi vst vco vwe vse vac vrw il ib ra rs rst rc pcu ps pw pa prk ec ew ex cc et ea ee ed cl lo lf (su 0) (sty 0) (ssz 0) (sel 0) (su 1) (sty 1) (ssz 1) (sel 1) (su 2) (sty 2) (ssz 2) (sel 2) (su 3) (sty 3) (ssz 3) (sel 3) (xs (i + 1)) (xs (i + 2)) r e1) (cwV 2 hts gL_law_X6_valueIn rfl rfl rfl ⟨rfl, pd_X6_valueIn⟩ ⟨Nat.le_of_ble_eq_true rfl, Nat.le_of_ble_eq_true rfl⟩) (pr_v hK hT.1 (q0 := 0) (ci := 6) rfl rfl rfl) rfl rfl hl.1 rfl (lv_room (Nat.le_of_ble_eq_true rfl)) dL_law_322 ⟨Nat.le_of_ble_eq_true rfl, Nat.le_of_ble_eq_true rfl⟩) ?_
  refine lv_aload_n hx hb dL_law_325 rfl (lv_at hl 1 rfl) ?_
  refine arg1 hC hS hl hi dL_law_326 dL_law_327 dL_law_328 dL_law_329 dL_law_330 ?_
  refine arg2 hC hS hl hi dL_law_331 dL_law_332 dL_law_333 dL_law_334 dL_law_335 ?_
  refine cr_i (va_runV (As := [.int (xs (i + 1)), .int (xs (i + 2))]) (rest := [.int r]) ⟨hx, hb, hml, hown, hts⟩ (c_X7_valueIn l D g aM mc msi mwe mco tru mse mac mst cb minp il mr mra ms mb mn mte mno mq ma mz md mp mex mt ml it mv hs kc ksi kwe kco kru kse kac kst (xs (i + 1)) (xs (i + 2)) r e2) (cwV 2 hts gL_law_X7_valueIn rfl rfl rfl ⟨rfl, pd_X7_valueIn⟩ ⟨Nat.le_of_ble_eq_true rfl, Nat.le_of_ble_eq_true rfl⟩) (pr_v hK hT.2.1 (q0 := 0) (ci := 7) rfl rfl rfl) rfl rfl hl.1 rfl (lv_room (Nat.le_of_ble_eq_true rfl)) dL_law_336 ⟨Nat.le_of_ble_eq_true rfl, Nat.le_of_ble_eq_true rfl⟩) ?_
  refine lv_icmp_eq (tgt := 1394) hx hb dL_law_339 (by decide) (fun _ => ?_) (fun q => absurd rfl q)
  exact kk T V Ln B N hs cb tc tca tru tdf tsi tst tco twe tse tac trw vc vca vru vdf vsi vst vco vwe vse vac vrw il ib ra rs rst rc pcu ps pw pa prk ec ew ex cc et ea ee ed cl lo lf su sty ssz sel mc msi mwe mco mse mac mst minp mr mra ms mb mn mte mno mq ma mz md mp mex mt ml it mv kc ksi kwe kco kru kse kac kst H locs ⟨⟨hTk, hX, hM⟩, hV, hI, hR, hN, hSL, hT, hS⟩
set_option maxHeartbeats 4000000 in
set_option maxRecDepth 100000 in
theorem arm_setWeight (hC : LC p s m c b L xs D g) (hI : LI s D g aX aT aV aI aR aP aE aS0 aS1 aS2 aS3 aM T V Ln B N hs cb tc tca tru tdf tsi tst tco twe tse tac trw vc vca vru vdf vsi vst vco vwe vse vac vrw il ib ra rs rst rc pcu ps pw pa prk ec ew ex cc et ea ee ed cl lo lf su sty ssz sel mc msi mwe mco mse mac mst minp mr mra ms mb mn mte mno mq ma mz md mp mex mt ml it mv kc ksi kwe kco kru kse kac kst H locs) (hl : lv_has ls 4 [(3, .int (nI i)), (2, .ref (aM 0)), (1, .ref (aX 0)), (0, .ref b)]) (hi : i + 6 ≤ L) (kk : LK p l e s m below meth c b D g aX aT aV aI aR aP aE aS0 aS1 aS2 aS3 aM ls) : LW p l e s m below meth c b H locs 344 ls [] := by
  obtain ⟨⟨hTk, hX, hM⟩, hV, hI, hR, hN, hSL, hT, hS⟩ := hI
  have hC0 := hC
  obtain ⟨hx, hb, hml, hown, hts, hXs, hbl, hK, hL⟩ := hC0
  have hA : ∀ q : Nat, s.heap.size ≤ q → (fun q : Nat => s.heap.size ≤ q) q := fun _ h => h
  obtain ⟨r, cb2, twe2, mwe2, T2, e1, e2, hT2, hX2, hM2, hcb⟩ := sim_setWeight hTk hX hM cb (xs (i + 1)) (xs (i + 2)) (xs (i + 3))
  refine lv_aload_n hx hb dL_law_344 rfl (lv_at hl 2 rfl) ?_
  refine arg1 hC hS hl hi dL_law_345 dL_law_346 dL_law_347 dL_law_348 dL_law_349 ?_
  refine arg2 hC hS hl hi dL_law_350 dL_law_351 dL_law_352 dL_law_353 dL_law_354 ?_
  refine arg3 hC hS hl hi dL_law_355 dL_law_356 dL_law_357 dL_law_358 dL_law_359 ?_
  refine tw_i (va_runV (As := [.int (xs (i + 1)), .int (xs (i + 2)), .int (xs (i + 3))]) (rest := []) ⟨hx, hb, hml, hown, hts⟩ (c_X6_setWeight l H.size D g aX aT aV aI aR aP aE aS0 aS1 aS2 aS3 hs cb tc tca tru tdf tsi tst tco twe tse tac trw vc vca vru vdf vsi vst vco vwe vse vac vrw il ib ra rs rst rc pcu ps pw pa prk ec ew ex cc et ea ee ed cl lo lf (su 0) (sty 0) (ssz 0) (sel 0) (su 1) (sty 1) (ssz 1) (sel 1) (su 2) (sty 2) (ssz 2) (sel 2) (su 3) (sty 3) (ssz 3) (sel 3) (xs (i + 1)) (xs (i + 2)) (xs (i + 3)) r cb2 twe2 e1) (cwV 3 hts gL_law_X6_setWeight rfl rfl rfl ⟨rfl, pd_X6_setWeight⟩ ⟨Nat.le_of_ble_eq_true rfl, Nat.le_of_ble_eq_true rfl⟩) (pw_v hK hT.1 hT.2.2.1 (q0 := 0) (ci := 6) rfl rfl rfl) rfl rfl hl.1 rfl (lv_room (Nat.le_of_ble_eq_true rfl)) dL_law_360 ⟨Nat.le_of_ble_eq_true rfl, Nat.le_of_ble_eq_true rfl⟩) hT hS hA (fun H locs hT hS => ?_)
  refine lv_aload_n hx hb dL_law_363 rfl (lv_at hl 1 rfl) ?_
  refine arg1 hC hS hl hi dL_law_364 dL_law_365 dL_law_366 dL_law_367 dL_law_368 ?_
  refine arg2 hC hS hl hi dL_law_369 dL_law_370 dL_law_371 dL_law_372 dL_law_373 ?_
  refine arg3 hC hS hl hi dL_law_374 dL_law_375 dL_law_376 dL_law_377 dL_law_378 ?_
  refine tw_i (va_runV (As := [.int (xs (i + 1)), .int (xs (i + 2)), .int (xs (i + 3))]) (rest := [.int r]) ⟨hx, hb, hml, hown, hts⟩ (c_X7_setWeight l H.size D g aM mc msi mwe mco tru mse mac mst cb minp il mr mra ms mb mn mte mno mq ma mz md mp mex mt ml it mv hs kc ksi kwe kco kru kse kac kst (xs (i + 1)) (xs (i + 2)) (xs (i + 3)) r mwe2 cb2 e2) (cwV 3 hts gL_law_X7_setWeight rfl rfl rfl ⟨rfl, pd_X7_setWeight⟩ ⟨Nat.le_of_ble_eq_true rfl, Nat.le_of_ble_eq_true rfl⟩) (pw_v hK hT.2.1 hT.2.2.2.1 (q0 := 0) (ci := 7) rfl rfl rfl) rfl rfl hl.1 rfl (lv_room (Nat.le_of_ble_eq_true rfl)) dL_law_379 ⟨Nat.le_of_ble_eq_true rfl, Nat.le_of_ble_eq_true rfl⟩) hT.swap hS hA (fun H locs hT hS => ?_)
  replace hT := hT.swap
  refine lv_icmp_eq (tgt := 1394) hx hb dL_law_382 (by decide) (fun _ => ?_) (fun q => absurd rfl q)
  exact kk T2 V Ln B N hs cb2 tc tca tru tdf tsi tst tco twe2 tse tac trw vc vca vru vdf vsi vst vco vwe vse vac vrw il ib ra rs rst rc pcu ps pw pa prk ec ew ex cc et ea ee ed cl lo lf su sty ssz sel mc msi mwe2 mco mse mac mst minp mr mra ms mb mn mte mno mq ma mz md mp mex mt ml it mv kc ksi kwe kco kru kse kac kst H locs ⟨⟨hT2, hX2, hM2⟩, hV, hI, (fun w => by obtain ⟨w1, w2⟩ := hcb w; rw [w2]; exact hR w1), hN, hSL, hT, hS⟩
set_option maxHeartbeats 4000000 in
set_option maxRecDepth 100000 in
theorem arm_setCost (hC : LC p s m c b L xs D g) (hI : LI s D g aX aT aV aI aR aP aE aS0 aS1 aS2 aS3 aM T V Ln B N hs cb tc tca tru tdf tsi tst tco twe tse tac trw vc vca vru vdf vsi vst vco vwe vse vac vrw il ib ra rs rst rc pcu ps pw pa prk ec ew ex cc et ea ee ed cl lo lf su sty ssz sel mc msi mwe mco mse mac mst minp mr mra ms mb mn mte mno mq ma mz md mp mex mt ml it mv kc ksi kwe kco kru kse kac kst H locs) (hl : lv_has ls 4 [(3, .int (nI i)), (2, .ref (aM 0)), (1, .ref (aX 0)), (0, .ref b)]) (hi : i + 6 ≤ L) (kk : LK p l e s m below meth c b D g aX aT aV aI aR aP aE aS0 aS1 aS2 aS3 aM ls) : LW p l e s m below meth c b H locs 387 ls [] := by
  obtain ⟨⟨hTk, hX, hM⟩, hV, hI, hR, hN, hSL, hT, hS⟩ := hI
  have hC0 := hC
  obtain ⟨hx, hb, hml, hown, hts, hXs, hbl, hK, hL⟩ := hC0
  have hA : ∀ q : Nat, s.heap.size ≤ q → (fun q : Nat => s.heap.size ≤ q) q := fun _ h => h
  obtain ⟨r, cb2, tco2, mco2, T2, e1, e2, hT2, hX2, hM2, hcb⟩ := sim_setCost hTk hX hM cb (xs (i + 1)) (xs (i + 2))
  refine lv_aload_n hx hb dL_law_387 rfl (lv_at hl 2 rfl) ?_
  refine arg1 hC hS hl hi dL_law_388 dL_law_389 dL_law_390 dL_law_391 dL_law_392 ?_
  refine arg2 hC hS hl hi dL_law_393 dL_law_394 dL_law_395 dL_law_396 dL_law_397 ?_
  refine tw_i (va_runV (As := [.int (xs (i + 1)), .int (xs (i + 2))]) (rest := []) ⟨hx, hb, hml, hown, hts⟩ (c_X6_setCost l H.size D g aX aT aV aI aR aP aE aS0 aS1 aS2 aS3 hs cb tc tca tru tdf tsi tst tco twe tse tac trw vc vca vru vdf vsi vst vco vwe vse vac vrw il ib ra rs rst rc pcu ps pw pa prk ec ew ex cc et ea ee ed cl lo lf (su 0) (sty 0) (ssz 0) (sel 0) (su 1) (sty 1) (ssz 1) (sel 1) (su 2) (sty 2) (ssz 2) (sel 2) (su 3) (sty 3) (ssz 3) (sel 3) (xs (i + 1)) (xs (i + 2)) r cb2 tco2 e1) (cwV 2 hts gL_law_X6_setCost rfl rfl rfl ⟨rfl, pd_X6_setCost⟩ ⟨Nat.le_of_ble_eq_true rfl, Nat.le_of_ble_eq_true rfl⟩) (pw_v hK hT.1 hT.2.2.1 (q0 := 0) (ci := 6) rfl rfl rfl) rfl rfl hl.1 rfl (lv_room (Nat.le_of_ble_eq_true rfl)) dL_law_398 ⟨Nat.le_of_ble_eq_true rfl, Nat.le_of_ble_eq_true rfl⟩) hT hS hA (fun H locs hT hS => ?_)
  refine lv_aload_n hx hb dL_law_401 rfl (lv_at hl 1 rfl) ?_
  refine arg1 hC hS hl hi dL_law_402 dL_law_403 dL_law_404 dL_law_405 dL_law_406 ?_
  refine arg2 hC hS hl hi dL_law_407 dL_law_408 dL_law_409 dL_law_410 dL_law_411 ?_
  refine tw_i (va_runV (As := [.int (xs (i + 1)), .int (xs (i + 2))]) (rest := [.int r]) ⟨hx, hb, hml, hown, hts⟩ (c_X7_setCost l H.size D g aM mc msi mwe mco tru mse mac mst cb minp il mr mra ms mb mn mte mno mq ma mz md mp mex mt ml it mv hs kc ksi kwe kco kru kse kac kst (xs (i + 1)) (xs (i + 2)) r mco2 cb2 e2) (cwV 2 hts gL_law_X7_setCost rfl rfl rfl ⟨rfl, pd_X7_setCost⟩ ⟨Nat.le_of_ble_eq_true rfl, Nat.le_of_ble_eq_true rfl⟩) (pw_v hK hT.2.1 hT.2.2.2.1 (q0 := 0) (ci := 7) rfl rfl rfl) rfl rfl hl.1 rfl (lv_room (Nat.le_of_ble_eq_true rfl)) dL_law_412 ⟨Nat.le_of_ble_eq_true rfl, Nat.le_of_ble_eq_true rfl⟩) hT.swap hS hA (fun H locs hT hS => ?_)
  replace hT := hT.swap
  refine lv_icmp_eq (tgt := 1394) hx hb dL_law_415 (by decide) (fun _ => ?_) (fun q => absurd rfl q)
  exact kk T2 V Ln B N hs cb2 tc tca tru tdf tsi tst tco2 twe tse tac trw vc vca vru vdf vsi vst vco vwe vse vac vrw il ib ra rs rst rc pcu ps pw pa prk ec ew ex cc et ea ee ed cl lo lf su sty ssz sel mc msi mwe mco2 mse mac mst minp mr mra ms mb mn mte mno mq ma mz md mp mex mt ml it mv kc ksi kwe kco kru kse kac kst H locs ⟨⟨hT2, hX2, hM2⟩, hV, hI, (fun w => by obtain ⟨w1, w2⟩ := hcb w; rw [w2]; exact hR w1), hN, hSL, hT, hS⟩
set_option maxHeartbeats 4000000 in
set_option maxRecDepth 100000 in
theorem arm_setDefault (hC : LC p s m c b L xs D g) (hI : LI s D g aX aT aV aI aR aP aE aS0 aS1 aS2 aS3 aM T V Ln B N hs cb tc tca tru tdf tsi tst tco twe tse tac trw vc vca vru vdf vsi vst vco vwe vse vac vrw il ib ra rs rst rc pcu ps pw pa prk ec ew ex cc et ea ee ed cl lo lf su sty ssz sel mc msi mwe mco mse mac mst minp mr mra ms mb mn mte mno mq ma mz md mp mex mt ml it mv kc ksi kwe kco kru kse kac kst H locs) (hl : lv_has ls 4 [(3, .int (nI i)), (2, .ref (aM 0)), (1, .ref (aX 0)), (0, .ref b)]) (hi : i + 6 ≤ L) (kk : LK p l e s m below meth c b D g aX aT aV aI aR aP aE aS0 aS1 aS2 aS3 aM ls) : LW p l e s m below meth c b H locs 420 ls [] := by
  obtain ⟨⟨hTk, hX, hM⟩, hV, hI, hR, hN, hSL, hT, hS⟩ := hI
  have hC0 := hC
  obtain ⟨hx, hb, hml, hown, hts, hXs, hbl, hK, hL⟩ := hC0
  have hA : ∀ q : Nat, s.heap.size ≤ q → (fun q : Nat => s.heap.size ≤ q) q := fun _ h => h
  obtain ⟨r, cb2, tdf2, mst2, T2, e1, e2, hT2, hX2, hM2, hcb⟩ := sim_setDefault hTk hX hM cb (xs (i + 1))
  refine lv_aload_n hx hb dL_law_420 rfl (lv_at hl 2 rfl) ?_
  refine arg1 hC hS hl hi dL_law_421 dL_law_422 dL_law_423 dL_law_424 dL_law_425 ?_
  refine tw_i (va_runV (As := [.int (xs (i + 1))]) (rest := []) ⟨hx, hb, hml, hown, hts⟩ (c_X6_setDefault l H.size D g aX aT aV aI aR aP aE aS0 aS1 aS2 aS3 hs cb tc tca tru tdf tsi tst tco twe tse tac trw vc vca vru vdf vsi vst vco vwe vse vac vrw il ib ra rs rst rc pcu ps pw pa prk ec ew ex cc et ea ee ed cl lo lf (su 0) (sty 0) (ssz 0) (sel 0) (su 1) (sty 1) (ssz 1) (sel 1) (su 2) (sty 2) (ssz 2) (sel 2) (su 3) (sty 3) (ssz 3) (sel 3) (xs (i + 1)) r cb2 tdf2 e1) (cwV 1 hts gL_law_X6_setDefault rfl rfl rfl ⟨rfl, pd_X6_setDefault⟩ ⟨Nat.le_of_ble_eq_true rfl, Nat.le_of_ble_eq_true rfl⟩) (pw_v hK hT.1 hT.2.2.1 (q0 := 0) (ci := 6) rfl rfl rfl) rfl rfl hl.1 rfl (lv_room (Nat.le_of_ble_eq_true rfl)) dL_law_426 ⟨Nat.le_of_ble_eq_true rfl, Nat.le_of_ble_eq_true rfl⟩) hT hS hA (fun H locs hT hS => ?_)
  refine lv_aload_n hx hb dL_law_429 rfl (lv_at hl 1 rfl) ?_
  refine arg1 hC hS hl hi dL_law_430 dL_law_431 dL_law_432 dL_law_433 dL_law_434 ?_
  refine tw_i (va_runV (As := [.int (xs (i + 1))]) (rest := [.int r]) ⟨hx, hb, hml, hown, hts⟩ (c_X7_setDefault l H.size D g aM mc msi mwe mco tru mse mac mst cb minp il mr mra ms mb mn mte mno mq ma mz md mp mex mt ml it mv hs kc ksi kwe kco kru kse kac kst (xs (i + 1)) r mst2 cb2 e2) (cwV 1 hts gL_law_X7_setDefault rfl rfl rfl ⟨rfl, pd_X7_setDefault⟩ ⟨Nat.le_of_ble_eq_true rfl, Nat.le_of_ble_eq_true rfl⟩) (pw_v hK hT.2.1 hT.2.2.2.1 (q0 := 0) (ci := 7) rfl rfl rfl) rfl rfl hl.1 rfl (lv_room (Nat.le_of_ble_eq_true rfl)) dL_law_435 ⟨Nat.le_of_ble_eq_true rfl, Nat.le_of_ble_eq_true rfl⟩) hT.swap hS hA (fun H locs hT hS => ?_)
  replace hT := hT.swap
  refine lv_icmp_eq (tgt := 1394) hx hb dL_law_438 (by decide) (fun _ => ?_) (fun q => absurd rfl q)
  exact kk T2 V Ln B N hs cb2 tc tca tru tdf2 tsi tst tco twe tse tac trw vc vca vru vdf vsi vst vco vwe vse vac vrw il ib ra rs rst rc pcu ps pw pa prk ec ew ex cc et ea ee ed cl lo lf su sty ssz sel mc msi mwe mco mse mac mst2 minp mr mra ms mb mn mte mno mq ma mz md mp mex mt ml it mv kc ksi kwe kco kru kse kac kst H locs ⟨⟨hT2, hX2, hM2⟩, hV, hI, (fun w => by obtain ⟨w1, w2⟩ := hcb w; rw [w2]; exact hR w1), hN, hSL, hT, hS⟩
set_option maxHeartbeats 4000000 in
set_option maxRecDepth 100000 in
theorem arm_append (hC : LC p s m c b L xs D g) (hI : LI s D g aX aT aV aI aR aP aE aS0 aS1 aS2 aS3 aM T V Ln B N hs cb tc tca tru tdf tsi tst tco twe tse tac trw vc vca vru vdf vsi vst vco vwe vse vac vrw il ib ra rs rst rc pcu ps pw pa prk ec ew ex cc et ea ee ed cl lo lf su sty ssz sel mc msi mwe mco mse mac mst minp mr mra ms mb mn mte mno mq ma mz md mp mex mt ml it mv kc ksi kwe kco kru kse kac kst H locs) (hl : lv_has ls 4 [(3, .int (nI i)), (2, .ref (aM 0)), (1, .ref (aX 0)), (0, .ref b)]) (hi : i + 6 ≤ L) (kk : LK p l e s m below meth c b D g aX aT aV aI aR aP aE aS0 aS1 aS2 aS3 aM ls) : LW p l e s m below meth c b H locs 443 ls [] := by
  obtain ⟨⟨hTk, hX, hM⟩, hV, hI, hR, hN, hSL, hT, hS⟩ := hI
  have hC0 := hC
  obtain ⟨hx, hb, hml, hown, hts, hXs, hbl, hK, hL⟩ := hC0
  have hA : ∀ q : Nat, s.heap.size ≤ q → (fun q : Nat => s.heap.size ≤ q) q := fun _ h => h
  obtain ⟨r, il2, ib2, minp2, Ln2, B2, e1, e2, hI2⟩ := sim_append hI (xs (i + 1)) (xs (i + 2))
  refine lv_aload_n hx hb dL_law_443 rfl (lv_at hl 2 rfl) ?_
  refine arg1 hC hS hl hi dL_law_444 dL_law_445 dL_law_446 dL_law_447 dL_law_448 ?_
  refine arg2 hC hS hl hi dL_law_449 dL_law_450 dL_law_451 dL_law_452 dL_law_453 ?_
  refine tw_i (va_runV (As := [.int (xs (i + 1)), .int (xs (i + 2))]) (rest := []) ⟨hx, hb, hml, hown, hts⟩ (c_X6_append l H.size D g aX aT aV aI aR aP aE aS0 aS1 aS2 aS3 hs cb tc tca tru tdf tsi tst tco twe tse tac trw vc vca vru vdf vsi vst vco vwe vse vac vrw il ib ra rs rst rc pcu ps pw pa prk ec ew ex cc et ea ee ed cl lo lf (su 0) (sty 0) (ssz 0) (sel 0) (su 1) (sty 1) (ssz 1) (sel 1) (su 2) (sty 2) (ssz 2) (sel 2) (su 3) (sty 3) (ssz 3) (sel 3) (xs (i + 1)) (xs (i + 2)) r il2 ib2 e1) (cwV 2 hts gL_law_X6_append rfl rfl rfl ⟨rfl, pd_X6_append⟩ ⟨Nat.le_of_ble_eq_true rfl, Nat.le_of_ble_eq_true rfl⟩) (pw_v hK hT.1 hT.2.2.1 (q0 := 0) (ci := 6) rfl rfl rfl) rfl rfl hl.1 rfl (lv_room (Nat.le_of_ble_eq_true rfl)) dL_law_454 ⟨Nat.le_of_ble_eq_true rfl, Nat.le_of_ble_eq_true rfl⟩) hT hS hA (fun H locs hT hS => ?_)
  refine lv_aload_n hx hb dL_law_457 rfl (lv_at hl 1 rfl) ?_
  refine arg1 hC hS hl hi dL_law_458 dL_law_459 dL_law_460 dL_law_461 dL_law_462 ?_
  refine arg2 hC hS hl hi dL_law_463 dL_law_464 dL_law_465 dL_law_466 dL_law_467 ?_
  refine tw_i (va_runV (As := [.int (xs (i + 1)), .int (xs (i + 2))]) (rest := [.int r]) ⟨hx, hb, hml, hown, hts⟩ (c_X7_append l H.size D g aM mc msi mwe mco tru mse mac mst cb minp il mr mra ms mb mn mte mno mq ma mz md mp mex mt ml it mv hs kc ksi kwe kco kru kse kac kst (xs (i + 1)) (xs (i + 2)) r minp2 il2 e2) (cwV 2 hts gL_law_X7_append rfl rfl rfl ⟨rfl, pd_X7_append⟩ ⟨Nat.le_of_ble_eq_true rfl, Nat.le_of_ble_eq_true rfl⟩) (pw_v hK hT.2.1 hT.2.2.2.1 (q0 := 0) (ci := 7) rfl rfl rfl) rfl rfl hl.1 rfl (lv_room (Nat.le_of_ble_eq_true rfl)) dL_law_468 ⟨Nat.le_of_ble_eq_true rfl, Nat.le_of_ble_eq_true rfl⟩) hT.swap hS hA (fun H locs hT hS => ?_)
  replace hT := hT.swap
  refine lv_icmp_eq (tgt := 1394) hx hb dL_law_471 (by decide) (fun _ => ?_) (fun q => absurd rfl q)
  exact kk T V Ln2 B2 N hs cb tc tca tru tdf tsi tst tco twe tse tac trw vc vca vru vdf vsi vst vco vwe vse vac vrw il2 ib2 ra rs rst rc pcu ps pw pa prk ec ew ex cc et ea ee ed cl lo lf su sty ssz sel mc msi mwe mco mse mac mst minp2 mr mra ms mb mn mte mno mq ma mz md mp mex mt ml it mv kc ksi kwe kco kru kse kac kst H locs ⟨⟨hTk, hX, hM⟩, hV, hI2, hR, hN, hSL, hT, hS⟩
end ARM
