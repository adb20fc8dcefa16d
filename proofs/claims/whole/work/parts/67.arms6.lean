section ARM
variable {p : Program} {l : Launch} {e : Env} {s : State} {m : MethodId} {below : List Frame} {meth : Method} {c : Code} {b L : Nat} {xs : Nat → Int32} {D : va_G} {g : Nat → ClassId} {H : Heap} {locs : List Loc} {i : Nat} {ls : Array Slot} {aX aT aV aI aR aP aE aS0 aS1 aS2 aS3 aM : Nat → Nat} {T : Tb} {V : Tb} {Ln : Nat} {B : Nat → Nat} {N : Nat} {hs : Bool} {cb : Bool} {tc : Int32} {tca : Int32} {tru : Int32} {tdf : Int32} {tsi : Nat → Int32} {tst : Nat → Int32} {tco : Nat → Int32} {twe : Nat → Int32} {tse : Nat → Int32} {tac : Nat → Int32} {trw : Nat → Int32} {vc : Int32} {vca : Int32} {vru : Int32} {vdf : Int32} {vsi : Nat → Int32} {vst : Nat → Int32} {vco : Nat → Int32} {vwe : Nat → Int32} {vse : Nat → Int32} {vac : Nat → Int32} {vrw : Nat → Int32} {il : Int32} {ib : Nat → Int32} {ra : Int32} {rs : Nat → Int32} {rst : Int32} {rc : Int32} {pcu : Int32} {ps : Nat → Int32} {pw : Nat → Int32} {pa : Nat → Int32} {prk : Nat → Int64} {ec : Int32} {ew : Int32} {ex : Int64} {cc : Int32} {et : Nat → Int32} {ea : Nat → Int32} {ee : Nat → Int32} {ed : Nat → Int32} {cl : Nat → Int32} {lo : Nat → Int32} {lf : Nat → Int32} {su : Nat → Bool} {sty : Nat → Int32} {ssz : Nat → Int32} {sel : Nat → Nat → Int64} {mc : Int32} {msi : Nat → Int32} {mwe : Nat → Int32} {mco : Nat → Int32} {mse : Nat → Int32} {mac : Nat → Int32} {mst : Int32} {minp : Nat → Int32} {mr : Nat → Int32} {mra : Int32} {ms : Nat → Int32} {mb : Nat → Int64} {mn : Nat → Int32} {mte : Nat → Int32} {mno : Int32} {mq : Nat → Int32} {ma : Nat → Int32} {mz : Nat → Int32} {md : Nat → Int32} {mp : Nat → Int32} {mex : Int64} {mt : Nat → Int32} {ml : Nat → Int32} {it : Nat → Int64} {mv : Nat → Int64} {kc : Int32} {ksi : Nat → Int32} {kwe : Nat → Int32} {kco : Nat → Int32} {kru : Int32} {kse : Nat → Int32} {kac : Nat → Int32} {kst : Int32}
set_option maxHeartbeats 4000000 in
set_option maxRecDepth 100000 in
theorem arm_putElement (hC : LC p s m c b L xs D g) (hI : LI s D g aX aT aV aI aR aP aE aS0 aS1 aS2 aS3 aM T V Ln B N hs cb tc tca tru tdf tsi tst tco twe tse tac trw vc vca vru vdf vsi vst vco vwe vse vac vrw il ib ra rs rst rc pcu ps pw pa prk ec ew ex cc et ea ee ed cl lo lf su sty ssz sel mc msi mwe mco mse mac mst minp mr mra ms mb mn mte mno mq ma mz md mp mex mt ml it mv kc ksi kwe kco kru kse kac kst H locs) (hl : lv_has ls 4 [(3, .int (nI i)), (2, .ref (aM 0)), (1, .ref (aX 0)), (0, .ref b)]) (hi : i + 6 ≤ L) (kk : LK p l e s m below meth c b D g aX aT aV aI aR aP aE aS0 aS1 aS2 aS3 aM ls) : LW p l e s m below meth c b H locs 1152 ls [] := by
  obtain ⟨⟨hTk, hX, hM⟩, hV, hI, hR, hN, hSL, hT, hS⟩ := hI
  have hC0 := hC
  obtain ⟨hx, hb, hml, hown, hts, hXs, hbl, hK, hL⟩ := hC0
  have hA : ∀ q : Nat, s.heap.size ≤ q → (fun q : Nat => s.heap.size ≤ q) q := fun _ h => h
  obtain ⟨r, sel2, it2, e1, e2, hSL2⟩ := sim_putElement hSL (xs (i + 1)) (xs (i + 2)) ((((xs (i + 3)).toInt64) <<< ((32 : Int32).toInt64 &&& 63)) ||| (((xs (i + 4)).toInt64) &&& (4294967295 : Int64)))
  refine lv_aload_n hx hb dL_law_1152 rfl (lv_at hl 2 rfl) ?_
  refine arg1 hC hS hl hi dL_law_1153 dL_law_1154 dL_law_1155 dL_law_1156 dL_law_1157 ?_
  refine arg2 hC hS hl hi dL_law_1158 dL_law_1159 dL_law_1160 dL_law_1161 dL_law_1162 ?_
  refine arg3 hC hS hl hi dL_law_1163 dL_law_1164 dL_law_1165 dL_law_1166 dL_law_1167 ?_
  refine lv_i2l (v := (xs (i + 3)).toInt64) hx hb dL_law_1168 rfl ?_
  refine lv_bipush (v := 32) hx hb dL_law_1169 (by decide) ?_
  refine lv_lshl (v := (((xs (i + 3)).toInt64) <<< ((32 : Int32).toInt64 &&& 63))) hx hb dL_law_1171 rfl ?_
  refine arg4 hC hS hl hi dL_law_1172 dL_law_1173 dL_law_1174 dL_law_1175 dL_law_1176 ?_
  refine lv_i2l (v := (xs (i + 4)).toInt64) hx hb dL_law_1177 rfl ?_
  refine lv_ldc2 hx hb hown (hts (.constantLong RL 176 (4294967295)) (List.mem_of_getElem? (i := 6) rfl)) dL_law_1178 ?_
  refine lv_land hx hb dL_law_1181 ?_
  refine lv_lor hx hb dL_law_1182 ?_
  refine tw_i (va_runV (As := [.int (xs (i + 1)), .int (xs (i + 2)), .long ((((xs (i + 3)).toInt64) <<< ((32 : Int32).toInt64 &&& 63)) ||| (((xs (i + 4)).toInt64) &&& (4294967295 : Int64)))]) (rest := []) ⟨hx, hb, hml, hown, hts⟩ (c_X6_putElement l H.size D g aX aT aV aI aR aP aE aS0 aS1 aS2 aS3 hs cb tc tca tru tdf tsi tst tco twe tse tac trw vc vca vru vdf vsi vst vco vwe vse vac vrw il ib ra rs rst rc pcu ps pw pa prk ec ew ex cc et ea ee ed cl lo lf (su 0) (sty 0) (ssz 0) (sel 0) (su 1) (sty 1) (ssz 1) (sel 1) (su 2) (sty 2) (ssz 2) (sel 2) (su 3) (sty 3) (ssz 3) (sel 3) (xs (i + 1)) (xs (i + 2)) ((((xs (i + 3)).toInt64) <<< ((32 : Int32).toInt64 &&& 63)) ||| (((xs (i + 4)).toInt64) &&& (4294967295 : Int64))) r (sel2 0) (sel2 1) (sel2 2) (sel2 3) e1) (cwV 3 hts gL_law_X6_putElement rfl rfl rfl ⟨rfl, pd_X6_putElement⟩ ⟨Nat.le_of_ble_eq_true rfl, Nat.le_of_ble_eq_true rfl⟩) (pw_v hK hT.1 hT.2.2.1 (q0 := 0) (ci := 6) rfl rfl rfl) rfl rfl hl.1 rfl (lv_room (Nat.le_of_ble_eq_true rfl)) dL_law_1183 ⟨Nat.le_of_ble_eq_true rfl, Nat.le_of_ble_eq_true rfl⟩) hT hS hA (fun H locs hT hS => ?_)
  refine lv_aload_n hx hb dL_law_1186 rfl (lv_at hl 1 rfl) ?_
  refine arg1 hC hS hl hi dL_law_1187 dL_law_1188 dL_law_1189 dL_law_1190 dL_law_1191 ?_
  refine arg2 hC hS hl hi dL_law_1192 dL_law_1193 dL_law_1194 dL_law_1195 dL_law_1196 ?_
  refine arg3 hC hS hl hi dL_law_1197 dL_law_1198 dL_law_1199 dL_law_1200 dL_law_1201 ?_
  refine lv_i2l (v := (xs (i + 3)).toInt64) hx hb dL_law_1202 rfl ?_
  refine lv_bipush (v := 32) hx hb dL_law_1203 (by decide) ?_
  refine lv_lshl (v := (((xs (i + 3)).toInt64) <<< ((32 : Int32).toInt64 &&& 63))) hx hb dL_law_1205 rfl ?_
  refine arg4 hC hS hl hi dL_law_1206 dL_law_1207 dL_law_1208 dL_law_1209 dL_law_1210 ?_
  refine lv_i2l (v := (xs (i + 4)).toInt64) hx hb dL_law_1211 rfl ?_
  refine lv_ldc2 hx hb hown (hts (.constantLong RL 176 (4294967295)) (List.mem_of_getElem? (i := 6) rfl)) dL_law_1212 ?_
  refine lv_land hx hb dL_law_1215 ?_
  refine lv_lor hx hb dL_law_1216 ?_
  refine tw_i (va_runV (As := [.int (xs (i + 1)), .int (xs (i + 2)), .long ((((xs (i + 3)).toInt64) <<< ((32 : Int32).toInt64 &&& 63)) ||| (((xs (i + 4)).toInt64) &&& (4294967295 : Int64)))]) (rest := [.int r]) ⟨hx, hb, hml, hown, hts⟩ (c_X7_putElement l H.size D g aM mc msi mwe mco tru mse mac mst cb minp il mr mra ms mb mn mte mno mq ma mz md mp mex mt ml it mv hs kc ksi kwe kco kru kse kac kst (xs (i + 1)) (xs (i + 2)) ((((xs (i + 3)).toInt64) <<< ((32 : Int32).toInt64 &&& 63)) ||| (((xs (i + 4)).toInt64) &&& (4294967295 : Int64))) r it2 e2) (cwV 3 hts gL_law_X7_putElement rfl rfl rfl ⟨rfl, pd_X7_putElement⟩ ⟨Nat.le_of_ble_eq_true rfl, Nat.le_of_ble_eq_true rfl⟩) (pw_v hK hT.2.1 hT.2.2.2.1 (q0 := 0) (ci := 7) rfl rfl rfl) rfl rfl hl.1 rfl (lv_room (Nat.le_of_ble_eq_true rfl)) dL_law_1217 ⟨Nat.le_of_ble_eq_true rfl, Nat.le_of_ble_eq_true rfl⟩) hT.swap hS hA (fun H locs hT hS => ?_)
  replace hT := hT.swap
  refine lv_icmp_eq (tgt := 1394) hx hb dL_law_1220 (by decide) (fun _ => ?_) (fun q => absurd rfl q)
  exact kk T V Ln B N hs cb tc tca tru tdf tsi tst tco twe tse tac trw vc vca vru vdf vsi vst vco vwe vse vac vrw il ib ra rs rst rc pcu ps pw pa prk ec ew ex cc et ea ee ed cl lo lf su sty ssz sel2 mc msi mwe mco mse mac mst minp mr mra ms mb mn mte mno mq ma mz md mp mex mt ml it2 mv kc ksi kwe kco kru kse kac kst H locs ⟨⟨hTk, hX, hM⟩, hV, hI, hR, hN, hSL2, hT, hS⟩
set_option maxHeartbeats 4000000 in
set_option maxRecDepth 100000 in
theorem arm_element (hC : LC p s m c b L xs D g) (hI : LI s D g aX aT aV aI aR aP aE aS0 aS1 aS2 aS3 aM T V Ln B N hs cb tc tca tru tdf tsi tst tco twe tse tac trw vc vca vru vdf vsi vst vco vwe vse vac vrw il ib ra rs rst rc pcu ps pw pa prk ec ew ex cc et ea ee ed cl lo lf su sty ssz sel mc msi mwe mco mse mac mst minp mr mra ms mb mn mte mno mq ma mz md mp mex mt ml it mv kc ksi kwe kco kru kse kac kst H locs) (hl : lv_has ls 4 [(3, .int (nI i)), (2, .ref (aM 0)), (1, .ref (aX 0)), (0, .ref b)]) (hi : i + 6 ≤ L) (kk : LK p l e s m below meth c b D g aX aT aV aI aR aP aE aS0 aS1 aS2 aS3 aM ls) : LW p l e s m below meth c b H locs 1225 ls [] := by
  obtain ⟨⟨hTk, hX, hM⟩, hV, hI, hR, hN, hSL, hT, hS⟩ := hI
  have hC0 := hC
  obtain ⟨hx, hb, hml, hown, hts, hXs, hbl, hK, hL⟩ := hC0
  have hA : ∀ q : Nat, s.heap.size ≤ q → (fun q : Nat => s.heap.size ≤ q) q := fun _ h => h
  obtain ⟨r, e1, e2⟩ := eq_element hSL (xs (i + 1)) (xs (i + 2))
  refine lv_aload_n hx hb dL_law_1225 rfl (lv_at hl 2 rfl) ?_
  refine arg1 hC hS hl hi dL_law_1226 dL_law_1227 dL_law_1228 dL_law_1229 dL_law_1230 ?_
  refine arg2 hC hS hl hi dL_law_1231 dL_law_1232 dL_law_1233 dL_law_1234 dL_law_1235 ?_
  refine cr_l (va_runV (As := [.int (xs (i + 1)), .int (xs (i + 2))]) (rest := []) ⟨hx, hb, hml, hown, hts⟩ (c_X6_element l D g aX aT aV aI aR aP aE aS0 aS1 aS2 aS3 hs cb tc tca tru tdf tsi tst tco twe tse tac trw vc vca vru vdf vsi vst vco vwe vse vac vrw il ib ra rs rst rc pcu ps pw pa prk ec ew ex cc et ea ee ed cl lo lf (su 0) (sty 0) (ssz 0) (sel 0) (su 1) (sty 1) (ssz 1) (sel 1) (su 2) (sty 2) (ssz 2) (sel 2) (su 3) (sty 3) (ssz 3) (sel 3) (xs (i + 1)) (xs (i + 2)) r e1) (cwV 2 hts gL_law_X6_element rfl rfl rfl ⟨rfl, pd_X6_element⟩ ⟨Nat.le_of_ble_eq_true rfl, Nat.le_of_ble_eq_true rfl⟩) (pr_v hK hT.1 (q0 := 0) (ci := 6) rfl rfl rfl) rfl rfl hl.1 rfl (lv_room (Nat.le_of_ble_eq_true rfl)) dL_law_1236 ⟨Nat.le_of_ble_eq_true rfl, Nat.le_of_ble_eq_true rfl⟩) ?_
  refine lv_aload_n hx hb dL_law_1239 rfl (lv_at hl 1 rfl) ?_
  refine arg1 hC hS hl hi dL_law_1240 dL_law_1241 dL_law_1242 dL_law_1243 dL_law_1244 ?_
  refine arg2 hC hS hl hi dL_law_1245 dL_law_1246 dL_law_1247 dL_law_1248 dL_law_1249 ?_
  refine cr_l (va_runV (As := [.int (xs (i + 1)), .int (xs (i + 2))]) (rest := [.long r]) ⟨hx, hb, hml, hown, hts⟩ (c_X7_element l D g aM mc msi mwe mco tru mse mac mst cb minp il mr mra ms mb mn mte mno mq ma mz md mp mex mt ml it mv hs kc ksi kwe kco kru kse kac kst (xs (i + 1)) (xs (i + 2)) r e2) (cwV 2 hts gL_law_X7_element rfl rfl rfl ⟨rfl, pd_X7_element⟩ ⟨Nat.le_of_ble_eq_true rfl, Nat.le_of_ble_eq_true rfl⟩) (pr_v hK hT.2.1 (q0 := 0) (ci := 7) rfl rfl rfl) rfl rfl hl.1 rfl (lv_room (Nat.le_of_ble_eq_true rfl)) dL_law_1250 ⟨Nat.le_of_ble_eq_true rfl, Nat.le_of_ble_eq_true rfl⟩) ?_
  refine W.lcmp hx hb dL_law_1253 ?_
  refine lv_if_eq (tgt := 1394) hx hb dL_law_1254 (by decide) (fun _ => ?_) (fun q => absurd (lg_self r) q)
  exact kk T V Ln B N hs cb tc tca tru tdf tsi tst tco twe tse tac trw vc vca vru vdf vsi vst vco vwe vse vac vrw il ib ra rs rst rc pcu ps pw pa prk ec ew ex cc et ea ee ed cl lo lf su sty ssz sel mc msi mwe mco mse mac mst minp mr mra ms mb mn mte mno mq ma mz md mp mex mt ml it mv kc ksi kwe kco kru kse kac kst H locs ⟨⟨hTk, hX, hM⟩, hV, hI, hR, hN, hSL, hT, hS⟩
set_option maxHeartbeats 4000000 in
set_option maxRecDepth 100000 in
theorem arm_copyElements (hC : LC p s m c b L xs D g) (hI : LI s D g aX aT aV aI aR aP aE aS0 aS1 aS2 aS3 aM T V Ln B N hs cb tc tca tru tdf tsi tst tco twe tse tac trw vc vca vru vdf vsi vst vco vwe vse vac vrw il ib ra rs rst rc pcu ps pw pa prk ec ew ex cc et ea ee ed cl lo lf su sty ssz sel mc msi mwe mco mse mac mst minp mr mra ms mb mn mte mno mq ma mz md mp mex mt ml it mv kc ksi kwe kco kru kse kac kst H locs) (hl : lv_has ls 4 [(3, .int (nI i)), (2, .ref (aM 0)), (1, .ref (aX 0)), (0, .ref b)]) (hi : i + 6 ≤ L) (kk : LK p l e s m below meth c b D g aX aT aV aI aR aP aE aS0 aS1 aS2 aS3 aM ls) : LW p l e s m below meth c b H locs 1259 ls [] := by
  obtain ⟨⟨hTk, hX, hM⟩, hV, hI, hR, hN, hSL, hT, hS⟩ := hI
  have hC0 := hC
  obtain ⟨hx, hb, hml, hown, hts, hXs, hbl, hK, hL⟩ := hC0
  have hA : ∀ q : Nat, s.heap.size ≤ q → (fun q : Nat => s.heap.size ≤ q) q := fun _ h => h
  obtain ⟨r, sel2, it2, mv2, e1, e2, hSL2⟩ := sim_copyElements hSL mv (xs (i + 1)) (xs (i + 2)) (xs (i + 3)) (xs (i + 4)) (xs (i + 5))
  refine lv_aload_n hx hb dL_law_1259 rfl (lv_at hl 2 rfl) ?_
  refine arg1 hC hS hl hi dL_law_1260 dL_law_1261 dL_law_1262 dL_law_1263 dL_law_1264 ?_
  refine arg2 hC hS hl hi dL_law_1265 dL_law_1266 dL_law_1267 dL_law_1268 dL_law_1269 ?_
  refine arg3 hC hS hl hi dL_law_1270 dL_law_1271 dL_law_1272 dL_law_1273 dL_law_1274 ?_
  refine arg4 hC hS hl hi dL_law_1275 dL_law_1276 dL_law_1277 dL_law_1278 dL_law_1279 ?_
  refine arg5 hC hS hl hi dL_law_1280 dL_law_1281 dL_law_1282 dL_law_1283 dL_law_1284 ?_
  refine tw_i (va_runV (As := [.int (xs (i + 1)), .int (xs (i + 2)), .int (xs (i + 3)), .int (xs (i + 4)), .int (xs (i + 5))]) (rest := []) ⟨hx, hb, hml, hown, hts⟩ (c_X6_copyElements l H.size D g aX aT aV aI aR aP aE aS0 aS1 aS2 aS3 hs cb tc tca tru tdf tsi tst tco twe tse tac trw vc vca vru vdf vsi vst vco vwe vse vac vrw il ib ra rs rst rc pcu ps pw pa prk ec ew ex cc et ea ee ed cl lo lf (su 0) (sty 0) (ssz 0) (sel 0) (su 1) (sty 1) (ssz 1) (sel 1) (su 2) (sty 2) (ssz 2) (sel 2) (su 3) (sty 3) (ssz 3) (sel 3) (xs (i + 1)) (xs (i + 2)) (xs (i + 3)) (xs (i + 4)) (xs (i + 5)) r (sel2 0) (sel2 1) (sel2 2) (sel2 3) e1) (cwV 5 hts gL_law_X6_copyElements rfl rfl rfl ⟨rfl, pd_X6_copyElements⟩ ⟨Nat.le_of_ble_eq_true rfl, Nat.le_of_ble_eq_true rfl⟩) (pw_v hK hT.1 hT.2.2.1 (q0 := 0) (ci := 6) rfl rfl rfl) rfl rfl hl.1 rfl (lv_room (Nat.le_of_ble_eq_true rfl)) dL_law_1285 ⟨Nat.le_of_ble_eq_true rfl, Nat.le_of_ble_eq_true rfl⟩) hT hS hA (fun H locs hT hS => ?_)
  refine lv_aload_n hx hb dL_law_1288 rfl (lv_at hl 1 rfl) ?_
  refine arg1 hC hS hl hi dL_law_1289 dL_law_1290 dL_law_1291 dL_law_1292 dL_law_1293 ?_
  refine arg2 hC hS hl hi dL_law_1294 dL_law_1295 dL_law_1296 dL_law_1297 dL_law_1298 ?_
  refine arg3 hC hS hl hi dL_law_1299 dL_law_1300 dL_law_1301 dL_law_1302 dL_law_1303 ?_
  refine arg4 hC hS hl hi dL_law_1304 dL_law_1305 dL_law_1306 dL_law_1307 dL_law_1308 ?_
  refine arg5 hC hS hl hi dL_law_1309 dL_law_1310 dL_law_1311 dL_law_1312 dL_law_1313 ?_
  refine tw_i (va_runV (As := [.int (xs (i + 1)), .int (xs (i + 2)), .int (xs (i + 3)), .int (xs (i + 4)), .int (xs (i + 5))]) (rest := [.int r]) ⟨hx, hb, hml, hown, hts⟩ (c_X7_copyElements l H.size D g aM mc msi mwe mco tru mse mac mst cb minp il mr mra ms mb mn mte mno mq ma mz md mp mex mt ml it mv hs kc ksi kwe kco kru kse kac kst (xs (i + 1)) (xs (i + 2)) (xs (i + 3)) (xs (i + 4)) (xs (i + 5)) r it2 mv2 e2) (cwV 5 hts gL_law_X7_copyElements rfl rfl rfl ⟨rfl, pd_X7_copyElements⟩ ⟨Nat.le_of_ble_eq_true rfl, Nat.le_of_ble_eq_true rfl⟩) (pw_v hK hT.2.1 hT.2.2.2.1 (q0 := 0) (ci := 7) rfl rfl rfl) rfl rfl hl.1 rfl (lv_room (Nat.le_of_ble_eq_true rfl)) dL_law_1314 ⟨Nat.le_of_ble_eq_true rfl, Nat.le_of_ble_eq_true rfl⟩) hT.swap hS hA (fun H locs hT hS => ?_)
  replace hT := hT.swap
  refine lv_icmp_eq (tgt := 1394) hx hb dL_law_1317 (by decide) (fun _ => ?_) (fun q => absurd rfl q)
  exact kk T V Ln B N hs cb tc tca tru tdf tsi tst tco twe tse tac trw vc vca vru vdf vsi vst vco vwe vse vac vrw il ib ra rs rst rc pcu ps pw pa prk ec ew ex cc et ea ee ed cl lo lf su sty ssz sel2 mc msi mwe mco mse mac mst minp mr mra ms mb mn mte mno mq ma mz md mp mex mt ml it2 mv2 kc ksi kwe kco kru kse kac kst H locs ⟨⟨hTk, hX, hM⟩, hV, hI, hR, hN, hSL2, hT, hS⟩
set_option maxHeartbeats 4000000 in
set_option maxRecDepth 100000 in
theorem arm_storeActions (hC : LC p s m c b L xs D g) (hI : LI s D g aX aT aV aI aR aP aE aS0 aS1 aS2 aS3 aM T V Ln B N hs cb tc tca tru tdf tsi tst tco twe tse tac trw vc vca vru vdf vsi vst vco vwe vse vac vrw il ib ra rs rst rc pcu ps pw pa prk ec ew ex cc et ea ee ed cl lo lf su sty ssz sel mc msi mwe mco mse mac mst minp mr mra ms mb mn mte mno mq ma mz md mp mex mt ml it mv kc ksi kwe kco kru kse kac kst H locs) (hl : lv_has ls 4 [(3, .int (nI i)), (2, .ref (aM 0)), (1, .ref (aX 0)), (0, .ref b)]) (hi : i + 6 ≤ L) (kk : LK p l e s m below meth c b D g aX aT aV aI aR aP aE aS0 aS1 aS2 aS3 aM ls) : LW p l e s m below meth c b H locs 1322 ls [] := by
  obtain ⟨⟨hTk, hX, hM⟩, hV, hI, hR, hN, hSL, hT, hS⟩ := hI
  have hC0 := hC
  obtain ⟨hx, hb, hml, hown, hts, hXs, hbl, hK, hL⟩ := hC0
  have hA : ∀ q : Nat, s.heap.size ≤ q → (fun q : Nat => s.heap.size ≤ q) q := fun _ h => h
  obtain ⟨r, su2, sty2, ssz2, sel2, mt2, ml2, it2, e1, e2, hSL2⟩ := sim_storeActions hTk hX hM hSL (xs (i + 1))
  refine lv_aload_n hx hb dL_law_1322 rfl (lv_at hl 2 rfl) ?_
  refine arg1 hC hS hl hi dL_law_1323 dL_law_1324 dL_law_1325 dL_law_1326 dL_law_1327 ?_
  refine tw_i (va_runV (As := [.int (xs (i + 1))]) (rest := []) ⟨hx, hb, hml, hown, hts⟩ (c_X6_storeActions l H.size D g aX aT aV aI aR aP aE aS0 aS1 aS2 aS3 hs cb tc tca tru tdf tsi tst tco twe tse tac trw vc vca vru vdf vsi vst vco vwe vse vac vrw il ib ra rs rst rc pcu ps pw pa prk ec ew ex cc et ea ee ed cl lo lf (su 0) (sty 0) (ssz 0) (sel 0) (su 1) (sty 1) (ssz 1) (sel 1) (su 2) (sty 2) (ssz 2) (sel 2) (su 3) (sty 3) (ssz 3) (sel 3) (xs (i + 1)) r (su2 0) (sty2 0) (ssz2 0) (sel2 0) (su2 1) (sty2 1) (ssz2 1) (sel2 1) (su2 2) (sty2 2) (ssz2 2) (sel2 2) (su2 3) (sty2 3) (ssz2 3) (sel2 3) e1) (cwV 1 hts gL_law_X6_storeActions rfl rfl rfl ⟨rfl, pd_X6_storeActions⟩ ⟨Nat.le_of_ble_eq_true rfl, Nat.le_of_ble_eq_true rfl⟩) (pw_v hK hT.1 hT.2.2.1 (q0 := 0) (ci := 6) rfl rfl rfl) rfl rfl hl.1 rfl (lv_room (Nat.le_of_ble_eq_true rfl)) dL_law_1328 ⟨Nat.le_of_ble_eq_true rfl, Nat.le_of_ble_eq_true rfl⟩) hT hS hA (fun H locs hT hS => ?_)
  refine lv_aload_n hx hb dL_law_1331 rfl (lv_at hl 1 rfl) ?_
  refine arg1 hC hS hl hi dL_law_1332 dL_law_1333 dL_law_1334 dL_law_1335 dL_law_1336 ?_
  refine tw_i (va_runV (As := [.int (xs (i + 1))]) (rest := [.int r]) ⟨hx, hb, hml, hown, hts⟩ (c_X7_storeActions l H.size D g aM mc msi mwe mco tru mse mac mst cb minp il mr mra ms mb mn mte mno mq ma mz md mp mex mt ml it mv hs kc ksi kwe kco kru kse kac kst (xs (i + 1)) r mt2 ml2 it2 e2) (cwV 1 hts gL_law_X7_storeActions rfl rfl rfl ⟨rfl, pd_X7_storeActions⟩ ⟨Nat.le_of_ble_eq_true rfl, Nat.le_of_ble_eq_true rfl⟩) (pw_v hK hT.2.1 hT.2.2.2.1 (q0 := 0) (ci := 7) rfl rfl rfl) rfl rfl hl.1 rfl (lv_room (Nat.le_of_ble_eq_true rfl)) dL_law_1337 ⟨Nat.le_of_ble_eq_true rfl, Nat.le_of_ble_eq_true rfl⟩) hT.swap hS hA (fun H locs hT hS => ?_)
  replace hT := hT.swap
  refine lv_icmp_eq (tgt := 1394) hx hb dL_law_1340 (by decide) (fun _ => ?_) (fun q => absurd rfl q)
  exact kk T V Ln B N hs cb tc tca tru tdf tsi tst tco twe tse tac trw vc vca vru vdf vsi vst vco vwe vse vac vrw il ib ra rs rst rc pcu ps pw pa prk ec ew ex cc et ea ee ed cl lo lf su2 sty2 ssz2 sel2 mc msi mwe mco mse mac mst minp mr mra ms mb mn mte mno mq ma mz md mp mex mt2 ml2 it2 mv kc ksi kwe kco kru kse kac kst H locs ⟨⟨hTk, hX, hM⟩, hV, hI, hR, hN, hSL2, hT, hS⟩
set_option maxHeartbeats 4000000 in
set_option maxRecDepth 100000 in
theorem arm_compareActions (hC : LC p s m c b L xs D g) (hI : LI s D g aX aT aV aI aR aP aE aS0 aS1 aS2 aS3 aM T V Ln B N hs cb tc tca tru tdf tsi tst tco twe tse tac trw vc vca vru vdf vsi vst vco vwe vse vac vrw il ib ra rs rst rc pcu ps pw pa prk ec ew ex cc et ea ee ed cl lo lf su sty ssz sel mc msi mwe mco mse mac mst minp mr mra ms mb mn mte mno mq ma mz md mp mex mt ml it mv kc ksi kwe kco kru kse kac kst H locs) (hl : lv_has ls 4 [(3, .int (nI i)), (2, .ref (aM 0)), (1, .ref (aX 0)), (0, .ref b)]) (hi : i + 6 ≤ L) (kk : LK p l e s m below meth c b D g aX aT aV aI aR aP aE aS0 aS1 aS2 aS3 aM ls) : LW p l e s m below meth c b H locs 1345 ls [] := by
  obtain ⟨⟨hTk, hX, hM⟩, hV, hI, hR, hN, hSL, hT, hS⟩ := hI
  have hC0 := hC
  obtain ⟨hx, hb, hml, hown, hts, hXs, hbl, hK, hL⟩ := hC0
  have hA : ∀ q : Nat, s.heap.size ≤ q → (fun q : Nat => s.heap.size ≤ q) q := fun _ h => h
  obtain ⟨r, e1, e2⟩ := eq_compareActions hTk hX hM hSL (xs (i + 1))
  refine lv_aload_n hx hb dL_law_1345 rfl (lv_at hl 2 rfl) ?_
  refine arg1 hC hS hl hi dL_law_1346 dL_law_1347 dL_law_1348 dL_law_1349 dL_law_1350 ?_
  refine cr_i (va_runV (As := [.int (xs (i + 1))]) (rest := []) ⟨hx, hb, hml, hown, hts⟩ (c_X6_compareActions l D g aX aT aV aI aR aP aE aS0 aS1 aS2 aS3 hs cb tc tca tru tdf tsi tst tco twe tse tac trw vc vca vru vdf vsi vst vco vwe vse vac vrw il ib ra rs rst rc pcu ps pw pa prk ec ew ex cc et ea ee ed cl lo lf (su 0) (sty 0) (ssz 0) (sel 0) (su 1) (sty 1) (ssz 1) (sel 1) (su 2) (sty 2) (ssz 2) (sel 2) (su 3) (sty 3) (ssz 3) (sel 3) (xs (i + 1)) r e1) (cwV 1 hts gL_law_X6_compareActions rfl rfl rfl ⟨rfl, pd_X6_compareActions⟩ ⟨Nat.le_of_ble_eq_true rfl, Nat.le_of_ble_eq_true rfl⟩) (pr_v hK hT.1 (q0 := 0) (ci := 6) rfl rfl rfl) rfl rfl hl.1 rfl (lv_room (Nat.le_of_ble_eq_true rfl)) dL_law_1351 ⟨Nat.le_of_ble_eq_true rfl, Nat.le_of_ble_eq_true rfl⟩) ?_
  refine lv_aload_n hx hb dL_law_1354 rfl (lv_at hl 1 rfl) ?_
  refine arg1 hC hS hl hi dL_law_1355 dL_law_1356 dL_law_1357 dL_law_1358 dL_law_1359 ?_
  refine cr_i (va_runV (As := [.int (xs (i + 1))]) (rest := [.int r]) ⟨hx, hb, hml, hown, hts⟩ (c_X7_compareActions l D g aM mc msi mwe mco tru mse mac mst cb minp il mr mra ms mb mn mte mno mq ma mz md mp mex mt ml it mv hs kc ksi kwe kco kru kse kac kst (xs (i + 1)) r e2) (cwV 1 hts gL_law_X7_compareActions rfl rfl rfl ⟨rfl, pd_X7_compareActions⟩ ⟨Nat.le_of_ble_eq_true rfl, Nat.le_of_ble_eq_true rfl⟩) (pr_v hK hT.2.1 (q0 := 0) (ci := 7) rfl rfl rfl) rfl rfl hl.1 rfl (lv_room (Nat.le_of_ble_eq_true rfl)) dL_law_1360 ⟨Nat.le_of_ble_eq_true rfl, Nat.le_of_ble_eq_true rfl⟩) ?_
  refine lv_icmp_eq (tgt := 1394) hx hb dL_law_1363 (by decide) (fun _ => ?_) (fun q => absurd rfl q)
  exact kk T V Ln B N hs cb tc tca tru tdf tsi tst tco twe tse tac trw vc vca vru vdf vsi vst vco vwe vse vac vrw il ib ra rs rst rc pcu ps pw pa prk ec ew ex cc et ea ee ed cl lo lf su sty ssz sel mc msi mwe mco mse mac mst minp mr mra ms mb mn mte mno mq ma mz md mp mex mt ml it mv kc ksi kwe kco kru kse kac kst H locs ⟨⟨hTk, hX, hM⟩, hV, hI, hR, hN, hSL, hT, hS⟩
set_option maxHeartbeats 4000000 in
set_option maxRecDepth 100000 in
theorem arm_snapshot (hC : LC p s m c b L xs D g) (hI : LI s D g aX aT aV aI aR aP aE aS0 aS1 aS2 aS3 aM T V Ln B N hs cb tc tca tru tdf tsi tst tco twe tse tac trw vc vca vru vdf vsi vst vco vwe vse vac vrw il ib ra rs rst rc pcu ps pw pa prk ec ew ex cc et ea ee ed cl lo lf su sty ssz sel mc msi mwe mco mse mac mst minp mr mra ms mb mn mte mno mq ma mz md mp mex mt ml it mv kc ksi kwe kco kru kse kac kst H locs) (hl : lv_has ls 4 [(3, .int (nI i)), (2, .ref (aM 0)), (1, .ref (aX 0)), (0, .ref b)]) (hi : i + 6 ≤ L) (kk : LK p l e s m below meth c b D g aX aT aV aI aR aP aE aS0 aS1 aS2 aS3 aM ls) : LW p l e s m below meth c b H locs 1368 ls [] := by
  obtain ⟨⟨hTk, hX, hM⟩, hV, hI, hR, hN, hSL, hT, hS⟩ := hI
  have hC0 := hC
  obtain ⟨hx, hb, hml, hown, hts, hXs, hbl, hK, hL⟩ := hC0
  have hA : ∀ q : Nat, s.heap.size ≤ q → (fun q : Nat => s.heap.size ≤ q) q := fun _ h => h
  obtain ⟨r, vc2, vca2, vru2, vdf2, vsi2, vst2, vco2, vwe2, vse2, vac2, vrw2, kc2, kst2, ksi2, kwe2, kco2, kse2, kac2, e1, e2, hX2, hM2⟩ := sim_snapshot hTk hX hM hs vc vca vru vdf vsi vst vco vwe vse vac vrw kc kru kst ksi kwe kco kse kac
  refine lv_aload_n hx hb dL_law_1368 rfl (lv_at hl 2 rfl) ?_
  refine tw_i (va_runV (As := []) (rest := []) ⟨hx, hb, hml, hown, hts⟩ (c_X6_snapshot l H.size D g aX aT aV aI aR aP aE aS0 aS1 aS2 aS3 hs cb tc tca tru tdf tsi tst tco twe tse tac trw vc vca vru vdf vsi vst vco vwe vse vac vrw il ib ra rs rst rc pcu ps pw pa prk ec ew ex cc et ea ee ed cl lo lf (su 0) (sty 0) (ssz 0) (sel 0) (su 1) (sty 1) (ssz 1) (sel 1) (su 2) (sty 2) (ssz 2) (sel 2) (su 3) (sty 3) (ssz 3) (sel 3)  r true vc2 vca2 vru2 vdf2 vsi2 vst2 vco2 vwe2 vse2 vac2 vrw2 e1) (cwV 0 hts gL_law_X6_snapshot rfl rfl rfl ⟨rfl, pd_X6_snapshot⟩ ⟨Nat.le_of_ble_eq_true rfl, Nat.le_of_ble_eq_true rfl⟩) (pw_v hK hT.1 hT.2.2.1 (q0 := 0) (ci := 6) rfl rfl rfl) rfl rfl hl.1 rfl (lv_room (Nat.le_of_ble_eq_true rfl)) dL_law_1369 ⟨Nat.le_of_ble_eq_true rfl, Nat.le_of_ble_eq_true rfl⟩) hT hS hA (fun H locs hT hS => ?_)
  refine lv_aload_n hx hb dL_law_1372 rfl (lv_at hl 1 rfl) ?_
  refine tw_i (va_runV (As := []) (rest := [.int r]) ⟨hx, hb, hml, hown, hts⟩ (c_X7_snapshot l H.size D g aM mc msi mwe mco tru mse mac mst cb minp il mr mra ms mb mn mte mno mq ma mz md mp mex mt ml it mv hs kc ksi kwe kco kru kse kac kst  r true kc2 ksi2 kwe2 kco2 r kse2 kac2 kst2 e2) (cwV 0 hts gL_law_X7_snapshot rfl rfl rfl ⟨rfl, pd_X7_snapshot⟩ ⟨Nat.le_of_ble_eq_true rfl, Nat.le_of_ble_eq_true rfl⟩) (pw_v hK hT.2.1 hT.2.2.2.1 (q0 := 0) (ci := 7) rfl rfl rfl) rfl rfl hl.1 rfl (lv_room (Nat.le_of_ble_eq_true rfl)) dL_law_1373 ⟨Nat.le_of_ble_eq_true rfl, Nat.le_of_ble_eq_true rfl⟩) hT.swap hS hA (fun H locs hT hS => ?_)
  replace hT := hT.swap
  refine lv_icmp_eq (tgt := 1394) hx hb dL_law_1376 (by decide) (fun _ => ?_) (fun q => absurd rfl q)
  exact kk T T Ln B N true cb tc tca tru tdf tsi tst tco twe tse tac trw vc2 vca2 vru2 vdf2 vsi2 vst2 vco2 vwe2 vse2 vac2 vrw2 il ib ra rs rst rc pcu ps pw pa prk ec ew ex cc et ea ee ed cl lo lf su sty ssz sel mc msi mwe mco mse mac mst minp mr mra ms mb mn mte mno mq ma mz md mp mex mt ml it mv kc2 ksi2 kwe2 kco2 r kse2 kac2 kst2 H locs ⟨⟨hTk, hX, hM⟩, (fun _ => ⟨hTk, hX2, hM2⟩), hI, hR, hN, hSL, hT, hS⟩
set_option maxHeartbeats 4000000 in
set_option maxRecDepth 100000 in
theorem arm_restore (hC : LC p s m c b L xs D g) (hI : LI s D g aX aT aV aI aR aP aE aS0 aS1 aS2 aS3 aM T V Ln B N hs cb tc tca tru tdf tsi tst tco twe tse tac trw vc vca vru vdf vsi vst vco vwe vse vac vrw il ib ra rs rst rc pcu ps pw pa prk ec ew ex cc et ea ee ed cl lo lf su sty ssz sel mc msi mwe mco mse mac mst minp mr mra ms mb mn mte mno mq ma mz md mp mex mt ml it mv kc ksi kwe kco kru kse kac kst H locs) (hl : lv_has ls 4 [(3, .int (nI i)), (2, .ref (aM 0)), (1, .ref (aX 0)), (0, .ref b)]) (hi : i + 6 ≤ L) (kk : LK p l e s m below meth c b D g aX aT aV aI aR aP aE aS0 aS1 aS2 aS3 aM ls) : LW p l e s m below meth c b H locs 1381 ls [] := by
  obtain ⟨⟨hTk, hX, hM⟩, hV, hI, hR, hN, hSL, hT, hS⟩ := hI
  have hC0 := hC
  obtain ⟨hx, hb, hml, hown, hts, hXs, hbl, hK, hL⟩ := hC0
  have hA : ∀ q : Nat, s.heap.size ≤ q → (fun q : Nat => s.heap.size ≤ q) q := fun _ h => h
  obtain ⟨r, cb2, tc2, tca2, tru2, tdf2, tsi2, tst2, tco2, twe2, tse2, tac2, trw2, mc2, mst2, msi2, mwe2, mco2, mse2, mac2, T2, e1, e2, hT2, hX2, hM2, hcb⟩ := sim_restore hTk hX hM hs cb hV
  refine lv_aload_n hx hb dL_law_1381 rfl (lv_at hl 2 rfl) ?_
  refine tw_i (va_runV (As := []) (rest := []) ⟨hx, hb, hml, hown, hts⟩ (c_X6_restore l H.size D g aX aT aV aI aR aP aE aS0 aS1 aS2 aS3 hs cb tc tca tru tdf tsi tst tco twe tse tac trw vc vca vru vdf vsi vst vco vwe vse vac vrw il ib ra rs rst rc pcu ps pw pa prk ec ew ex cc et ea ee ed cl lo lf (su 0) (sty 0) (ssz 0) (sel 0) (su 1) (sty 1) (ssz 1) (sel 1) (su 2) (sty 2) (ssz 2) (sel 2) (su 3) (sty 3) (ssz 3) (sel 3)  r cb2 tc2 tca2 tru2 tdf2 tsi2 tst2 tco2 twe2 tse2 tac2 trw2 e1) (cwV 0 hts gL_law_X6_restore rfl rfl rfl ⟨rfl, pd_X6_restore⟩ ⟨Nat.le_of_ble_eq_true rfl, Nat.le_of_ble_eq_true rfl⟩) (pw_v hK hT.1 hT.2.2.1 (q0 := 0) (ci := 6) rfl rfl rfl) rfl rfl hl.1 rfl (lv_room (Nat.le_of_ble_eq_true rfl)) dL_law_1382 ⟨Nat.le_of_ble_eq_true rfl, Nat.le_of_ble_eq_true rfl⟩) hT hS hA (fun H locs hT hS => ?_)
  refine lv_aload_n hx hb dL_law_1385 rfl (lv_at hl 1 rfl) ?_
  refine tw_i (va_runV (As := []) (rest := [.int r]) ⟨hx, hb, hml, hown, hts⟩ (c_X7_restore l H.size D g aM mc msi mwe mco tru mse mac mst cb minp il mr mra ms mb mn mte mno mq ma mz md mp mex mt ml it mv hs kc ksi kwe kco kru kse kac kst  r mc2 msi2 mwe2 mco2 tru2 mse2 mac2 mst2 cb2 e2) (cwV 0 hts gL_law_X7_restore rfl rfl rfl ⟨rfl, pd_X7_restore⟩ ⟨Nat.le_of_ble_eq_true rfl, Nat.le_of_ble_eq_true rfl⟩) (pw_v hK hT.2.1 hT.2.2.2.1 (q0 := 0) (ci := 7) rfl rfl rfl) rfl rfl hl.1 rfl (lv_room (Nat.le_of_ble_eq_true rfl)) dL_law_1386 ⟨Nat.le_of_ble_eq_true rfl, Nat.le_of_ble_eq_true rfl⟩) hT.swap hS hA (fun H locs hT hS => ?_)
  replace hT := hT.swap
  refine lv_icmp_eq (tgt := 1394) hx hb dL_law_1389 (by decide) (fun _ => ?_) (fun q => absurd rfl q)
  exact kk T2 V Ln B N hs cb2 tc2 tca2 tru2 tdf2 tsi2 tst2 tco2 twe2 tse2 tac2 trw2 vc vca vru vdf vsi vst vco vwe vse vac vrw il ib ra rs rst rc pcu ps pw pa prk ec ew ex cc et ea ee ed cl lo lf su sty ssz sel mc2 msi2 mwe2 mco2 mse2 mac2 mst2 minp mr mra ms mb mn mte mno mq ma mz md mp mex mt ml it mv kc ksi kwe kco kru kse kac kst H locs ⟨⟨hT2, hX2, hM2⟩, hV, hI, (fun w => by obtain ⟨w1, w2⟩ := hcb w; rw [w2]; exact hR w1), hN, hSL, hT, hS⟩
end ARM
