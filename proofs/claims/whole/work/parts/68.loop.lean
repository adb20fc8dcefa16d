section LOOP
variable {p : Program} {l : Launch} {e : Env} {s : State} {m : MethodId} {below : List Frame} {meth : Method} {c : Code} {b L : Nat} {xs : Nat → Int32} {D : va_G} {g : Nat → ClassId} {aX aT aV aI aR aP aE aS0 aS1 aS2 aS3 aM : Nat → Nat} {T : Tb} {V : Tb} {Ln : Nat} {B : Nat → Nat} {N : Nat} {hs : Bool} {cb : Bool} {tc : Int32} {tca : Int32} {tru : Int32} {tdf : Int32} {tsi : Nat → Int32} {tst : Nat → Int32} {tco : Nat → Int32} {twe : Nat → Int32} {tse : Nat → Int32} {tac : Nat → Int32} {trw : Nat → Int32} {vc : Int32} {vca : Int32} {vru : Int32} {vdf : Int32} {vsi : Nat → Int32} {vst : Nat → Int32} {vco : Nat → Int32} {vwe : Nat → Int32} {vse : Nat → Int32} {vac : Nat → Int32} {vrw : Nat → Int32} {il : Int32} {ib : Nat → Int32} {ra : Int32} {rs : Nat → Int32} {rst : Int32} {rc : Int32} {pcu : Int32} {ps : Nat → Int32} {pw : Nat → Int32} {pa : Nat → Int32} {prk : Nat → Int64} {ec : Int32} {ew : Int32} {ex : Int64} {cc : Int32} {et : Nat → Int32} {ea : Nat → Int32} {ee : Nat → Int32} {ed : Nat → Int32} {cl : Nat → Int32} {lo : Nat → Int32} {lf : Nat → Int32} {su : Nat → Bool} {sty : Nat → Int32} {ssz : Nat → Int32} {sel : Nat → Nat → Int64} {mc : Int32} {msi : Nat → Int32} {mwe : Nat → Int32} {mco : Nat → Int32} {mse : Nat → Int32} {mac : Nat → Int32} {mst : Int32} {minp : Nat → Int32} {mr : Nat → Int32} {mra : Int32} {ms : Nat → Int32} {mb : Nat → Int64} {mn : Nat → Int32} {mte : Nat → Int32} {mno : Int32} {mq : Nat → Int32} {ma : Nat → Int32} {mz : Nat → Int32} {md : Nat → Int32} {mp : Nat → Int32} {mex : Int64} {mt : Nat → Int32} {ml : Nat → Int32} {it : Nat → Int64} {mv : Nat → Int64} {kc : Int32} {ksi : Nat → Int32} {kwe : Nat → Int32} {kco : Nat → Int32} {kru : Int32} {kse : Nat → Int32} {kac : Nat → Int32} {kst : Int32}
theorem LI.S {H : Heap} {locs : List Loc} (h : LI s D g aX aT aV aI aR aP aE aS0 aS1 aS2 aS3 aM T V Ln B N hs cb tc tca tru tdf tsi tst tco twe tse tac trw vc vca vru vdf vsi vst vco vwe vse vac vrw il ib ra rs rst rc pcu ps pw pa prk ec ew ex cc et ea ee ed cl lo lf su sty ssz sel mc msi mwe mco mse mac mst minp mr mra ms mb mn mte mno mq ma mz md mp mex mt ml it mv kc ksi kwe kco kru kse kac kst H locs) : va_S (fun q : Nat => s.heap.size ≤ q) s.heap H locs := h.2.2.2.2.2.2.2
set_option maxHeartbeats 4000000 in
set_option maxRecDepth 100000 in
theorem law_switch (hC : LC p s m c b L xs D g) {H : Heap} {locs : List Loc} {i : Nat} {ls : Array Slot} (hI : LI s D g aX aT aV aI aR aP aE aS0 aS1 aS2 aS3 aM T V Ln B N hs cb tc tca tru tdf tsi tst tco twe tse tac trw vc vca vru vdf vsi vst vco vwe vse vac vrw il ib ra rs rst rc pcu ps pw pa prk ec ew ex cc et ea ee ed cl lo lf su sty ssz sel mc msi mwe mco mse mac mst minp mr mra ms mb mn mte mno mq ma mz md mp mex mt ml it mv kc ksi kwe kco kru kse kac kst H locs) (hl : lv_has ls 4 [(3, .int (nI i)), (2, .ref (aM 0)), (1, .ref (aX 0)), (0, .ref b)]) (hi : i + 6 ≤ L) (kk : LK p l e s m below meth c b D g aX aT aV aI aR aP aE aS0 aS1 aS2 aS3 aM ls) (v : Int32) : LW p l e s m below meth c b H locs 33 ls [.int v] := by
  obtain ⟨hx, hb, hml, hown, hts, hX, hbl, hK, hL⟩ := id hC
  by_cases hv : vp_in v 46
  · obtain ⟨j, hj, rfl⟩ := vp_in_of hv (by decide)
    match j, hj with
    | 0, _ => exact lv_tableIn (off := 199) (tgt := 232) hx hb dL_law_33 (by decide) (by decide) rfl (by decide) (arm_reset hC hI hl hi kk)
    | 1, _ => exact lv_tableIn (off := 252) (tgt := 285) hx hb dL_law_33 (by decide) (by decide) rfl (by decide) (arm_conditionCount hC hI hl hi kk)
    | 2, _ => exact lv_tableIn (off := 265) (tgt := 298) hx hb dL_law_33 (by decide) (by decide) rfl (by decide) (arm_caseCount hC hI hl hi kk)
    | 3, _ => exact lv_tableIn (off := 278) (tgt := 311) hx hb dL_law_33 (by decide) (by decide) rfl (by decide) (arm_valueIn hC hI hl hi kk)
    | 4, _ => exact lv_tableIn (off := 311) (tgt := 344) hx hb dL_law_33 (by decide) (by decide) rfl (by decide) (arm_setWeight hC hI hl hi kk)
    | 5, _ => exact lv_tableIn (off := 354) (tgt := 387) hx hb dL_law_33 (by decide) (by decide) rfl (by decide) (arm_setCost hC hI hl hi kk)
    | 6, _ => exact lv_tableIn (off := 387) (tgt := 420) hx hb dL_law_33 (by decide) (by decide) rfl (by decide) (arm_setDefault hC hI hl hi kk)
    | 7, _ => exact lv_tableIn (off := 410) (tgt := 443) hx hb dL_law_33 (by decide) (by decide) rfl (by decide) (arm_append hC hI hl hi kk)
    | 8, _ => exact lv_tableIn (off := 443) (tgt := 476) hx hb dL_law_33 (by decide) (by decide) rfl (by decide) (arm_clearInput hC hI hl hi kk)
    | 9, _ => exact lv_tableIn (off := 456) (tgt := 489) hx hb dL_law_33 (by decide) (by decide) rfl (by decide) (arm_addRule hC hI hl hi kk)
    | 10, _ => exact lv_tableIn (off := 469) (tgt := 502) hx hb dL_law_33 (by decide) (by decide) rfl (by decide) (arm_insertRule hC hI hl hi kk)
    | 11, _ => exact lv_tableIn (off := 492) (tgt := 525) hx hb dL_law_33 (by decide) (by decide) rfl (by decide) (arm_removeRule hC hI hl hi kk)
    | 12, _ => exact lv_tableIn (off := 515) (tgt := 548) hx hb dL_law_33 (by decide) (by decide) rfl (by decide) (arm_ruleCount hC hI hl hi kk)
    | 13, _ => exact lv_tableIn (off := 528) (tgt := 561) hx hb dL_law_33 (by decide) (by decide) rfl (by decide) (arm_ruleSet hC hI hl hi kk)
    | 14, _ => exact lv_tableIn (off := 561) (tgt := 594) hx hb dL_law_33 (by decide) (by decide) rfl (by decide) (arm_ruleAction hC hI hl hi kk)
    | 15, _ => exact lv_tableIn (off := 584) (tgt := 617) hx hb dL_law_33 (by decide) (by decide) rfl (by decide) (arm_ruleCases hC hI hl hi kk)
    | 16, _ => exact lv_tableIn (off := 607) (tgt := 640) hx hb dL_law_33 (by decide) (by decide) rfl (by decide) (arm_firstMatch hC hI hl hi kk)
    | 17, _ => exact lv_tableIn (off := 630) (tgt := 663) hx hb dL_law_33 (by decide) (by decide) rfl (by decide) (arm_matches hC hI hl hi kk)
    | 18, _ => exact lv_tableIn (off := 653) (tgt := 686) hx hb dL_law_33 (by decide) (by decide) rfl (by decide) (arm_action hC hI hl hi kk)
    | 19, _ => exact lv_tableIn (off := 676) (tgt := 709) hx hb dL_law_33 (by decide) (by decide) rfl (by decide) (arm_gapCount hC hI hl hi kk)
    | 20, _ => exact lv_tableIn (off := 689) (tgt := 722) hx hb dL_law_33 (by decide) (by decide) rfl (by decide) (arm_gap hC hI hl hi kk)
    | 21, _ => exact lv_tableIn (off := 712) (tgt := 745) hx hb dL_law_33 (by decide) (by decide) rfl (by decide) (arm_gapWeight hC hI hl hi kk)
    | 22, _ => exact lv_tableIn (off := 726) (tgt := 759) hx hb dL_law_33 (by decide) (by decide) rfl (by decide) (arm_conflictCount hC hI hl hi kk)
    | 23, _ => exact lv_tableIn (off := 739) (tgt := 772) hx hb dL_law_33 (by decide) (by decide) rfl (by decide) (arm_conflict hC hI hl hi kk)
    | 24, _ => exact lv_tableIn (off := 772) (tgt := 805) hx hb dL_law_33 (by decide) (by decide) rfl (by decide) (arm_isShadowed hC hI hl hi kk)
    | 25, _ => exact lv_tableIn (off := 795) (tgt := 828) hx hb dL_law_33 (by decide) (by decide) rfl (by decide) (arm_removeShadowed hC hI hl hi kk)
    | 26, _ => exact lv_tableIn (off := 808) (tgt := 841) hx hb dL_law_33 (by decide) (by decide) rfl (by decide) (arm_mergeRules hC hI hl hi kk)
    | 27, _ => exact lv_tableIn (off := 821) (tgt := 854) hx hb dL_law_33 (by decide) (by decide) rfl (by decide) (arm_compile hC hI hl hi kk)
    | 28, _ => exact lv_tableIn (off := 834) (tgt := 867) hx hb dL_law_33 (by decide) (by decide) rfl (by decide) (arm_expectedCost hC hI hl hi kk)
    | 29, _ => exact lv_tableIn (off := 848) (tgt := 881) hx hb dL_law_33 (by decide) (by decide) rfl (by decide) (arm_worstCost hC hI hl hi kk)
    | 30, _ => exact lv_tableIn (off := 861) (tgt := 894) hx hb dL_law_33 (by decide) (by decide) rfl (by decide) (arm_node hC hI hl hi kk)
    | 31, _ => exact lv_tableIn (off := 894) (tgt := 927) hx hb dL_law_33 (by decide) (by decide) rfl (by decide) (arm_child hC hI hl hi kk)
    | 32, _ => exact lv_tableIn (off := 927) (tgt := 960) hx hb dL_law_33 (by decide) (by decide) rfl (by decide) (arm_leafOf hC hI hl hi kk)
    | 33, _ => exact lv_tableIn (off := 950) (tgt := 983) hx hb dL_law_33 (by decide) (by decide) rfl (by decide) (arm_sharedNodeCount hC hI hl hi kk)
    | 34, _ => exact lv_tableIn (off := 963) (tgt := 996) hx hb dL_law_33 (by decide) (by decide) rfl (by decide) (arm_sharedNode hC hI hl hi kk)
    | 35, _ => exact lv_tableIn (off := 986) (tgt := 1019) hx hb dL_law_33 (by decide) (by decide) rfl (by decide) (arm_costWithRoot hC hI hl hi kk)
    | 36, _ => exact lv_tableIn (off := 1010) (tgt := 1043) hx hb dL_law_33 (by decide) (by decide) rfl (by decide) (arm_sample hC hI hl hi kk)
    | 37, _ => exact lv_tableIn (off := 1053) (tgt := 1086) hx hb dL_law_33 (by decide) (by decide) rfl (by decide) (arm_allocate hC hI hl hi kk)
    | 38, _ => exact lv_tableIn (off := 1096) (tgt := 1129) hx hb dL_law_33 (by decide) (by decide) rfl (by decide) (arm_release hC hI hl hi kk)
    | 39, _ => exact lv_tableIn (off := 1119) (tgt := 1152) hx hb dL_law_33 (by decide) (by decide) rfl (by decide) (arm_putElement hC hI hl hi kk)
    | 40, _ => exact lv_tableIn (off := 1192) (tgt := 1225) hx hb dL_law_33 (by decide) (by decide) rfl (by decide) (arm_element hC hI hl hi kk)
    | 41, _ => exact lv_tableIn (off := 1226) (tgt := 1259) hx hb dL_law_33 (by decide) (by decide) rfl (by decide) (arm_copyElements hC hI hl hi kk)
    | 42, _ => exact lv_tableIn (off := 1289) (tgt := 1322) hx hb dL_law_33 (by decide) (by decide) rfl (by decide) (arm_storeActions hC hI hl hi kk)
    | 43, _ => exact lv_tableIn (off := 1312) (tgt := 1345) hx hb dL_law_33 (by decide) (by decide) rfl (by decide) (arm_compareActions hC hI hl hi kk)
    | 44, _ => exact lv_tableIn (off := 1335) (tgt := 1368) hx hb dL_law_33 (by decide) (by decide) rfl (by decide) (arm_snapshot hC hI hl hi kk)
    | 45, _ => exact lv_tableIn (off := 1348) (tgt := 1381) hx hb dL_law_33 (by decide) (by decide) rfl (by decide) (arm_restore hC hI hl hi kk)
    | n + 46, h => exact absurd h (by omega)
  · refine lv_tableOut (tgt := 1394) hx hb dL_law_33 ?_ (by decide) (kk T V Ln B N hs cb tc tca tru tdf tsi tst tco twe tse tac trw vc vca vru vdf vsi vst vco vwe vse vac vrw il ib ra rs rst rc pcu ps pw pa prk ec ew ex cc et ea ee ed cl lo lf su sty ssz sel mc msi mwe mco mse mac mst minp mr mra ms mb mn mte mno mq ma mz md mp mex mt ml it mv kc ksi kwe kco kru kse kac kst H locs hI)
    rw [vp_in_iff] at hv
    omega
set_option maxHeartbeats 4000000 in
set_option maxRecDepth 100000 in
theorem law_loop (hC : LC p s m c b L xs D g) (hr : meth.sig.returnType = ret) (hlocks : meth.locks = false) : ∀ (n i : Nat) (T : Tb) (V : Tb) (Ln : Nat) (B : Nat → Nat) (N : Nat) (hs : Bool) (cb : Bool) (tc : Int32) (tca : Int32) (tru : Int32) (tdf : Int32) (tsi : Nat → Int32) (tst : Nat → Int32) (tco : Nat → Int32) (twe : Nat → Int32) (tse : Nat → Int32) (tac : Nat → Int32) (trw : Nat → Int32) (vc : Int32) (vca : Int32) (vru : Int32) (vdf : Int32) (vsi : Nat → Int32) (vst : Nat → Int32) (vco : Nat → Int32) (vwe : Nat → Int32) (vse : Nat → Int32) (vac : Nat → Int32) (vrw : Nat → Int32) (il : Int32) (ib : Nat → Int32) (ra : Int32) (rs : Nat → Int32) (rst : Int32) (rc : Int32) (pcu : Int32) (ps : Nat → Int32) (pw : Nat → Int32) (pa : Nat → Int32) (prk : Nat → Int64) (ec : Int32) (ew : Int32) (ex : Int64) (cc : Int32) (et : Nat → Int32) (ea : Nat → Int32) (ee : Nat → Int32) (ed : Nat → Int32) (cl : Nat → Int32) (lo : Nat → Int32) (lf : Nat → Int32) (su : Nat → Bool) (sty : Nat → Int32) (ssz : Nat → Int32) (sel : Nat → Nat → Int64) (mc : Int32) (msi : Nat → Int32) (mwe : Nat → Int32) (mco : Nat → Int32) (mse : Nat → Int32) (mac : Nat → Int32) (mst : Int32) (minp : Nat → Int32) (mr : Nat → Int32) (mra : Int32) (ms : Nat → Int32) (mb : Nat → Int64) (mn : Nat → Int32) (mte : Nat → Int32) (mno : Int32) (mq : Nat → Int32) (ma : Nat → Int32) (mz : Nat → Int32) (md : Nat → Int32) (mp : Nat → Int32) (mex : Int64) (mt : Nat → Int32) (ml : Nat → Int32) (it : Nat → Int64) (mv : Nat → Int64) (kc : Int32) (ksi : Nat → Int32) (kwe : Nat → Int32) (kco : Nat → Int32) (kru : Int32) (kse : Nat → Int32) (kac : Nat → Int32) (kst : Int32) (H : Heap) (locs : List Loc) (ls : Array Slot), i ≤ L → L + 1 ≤ i + n → LI s D g aX aT aV aI aR aP aE aS0 aS1 aS2 aS3 aM T V Ln B N hs cb tc tca tru tdf tsi tst tco twe tse tac trw vc vca vru vdf vsi vst vco vwe vse vac vrw il ib ra rs rst rc pcu ps pw pa prk ec ew ex cc et ea ee ed cl lo lf su sty ssz sel mc msi mwe mco mse mac mst minp mr mra ms mb mn mte mno mq ma mz md mp mex mt ml it mv kc ksi kwe kco kru kse kac kst H locs → lv_has ls 4 [(3, .int (nI i)), (2, .ref (aM 0)), (1, .ref (aX 0)), (0, .ref b)] → LW p l e s m below meth c b H locs 18 ls [] := by
  obtain ⟨hx, hb, hml, hown, hts, hX, hbl, hK, hL⟩ := id hC
  intro n
  induction n with
  | zero =>
    intro i T V Ln B N hs cb tc tca tru tdf tsi tst tco twe tse tac trw vc vca vru vdf vsi vst vco vwe vse vac vrw il ib ra rs rst rc pcu ps pw pa prk ec ew ex cc et ea ee ed cl lo lf su sty ssz sel mc msi mwe mco mse mac mst minp mr mra ms mb mn mte mno mq ma mz md mp mex mt ml it mv kc ksi kwe kco kru kse kac kst H locs ls h1 h2
    omega
  | succ n ih =>
    intro i T V Ln B N hs cb tc tca tru tdf tsi tst tco twe tse tac trw vc vca vru vdf vsi vst vco vwe vse vac vrw il ib ra rs rst rc pcu ps pw pa prk ec ew ex cc et ea ee ed cl lo lf su sty ssz sel mc msi mwe mco mse mac mst minp mr mra ms mb mn mte mno mq ma mz md mp mex mt ml it mv kc ksi kwe kco kru kse kac kst H locs ls hiL hn hI hl
    have hS := hI.S
    refine lv_iload_n hx hb dL_law_18 rfl (lv_at hl 0 rfl) ?_
    refine lv_aload_n hx hb dL_law_19 rfl (lv_at hl 3 rfl) ?_
    refine va_slen hx hb hX hbl (Nat.not_le.mpr hbl) hS dL_law_20 ?_
    refine lv_bipush (v := 6) hx hb dL_law_21 (by decide) ?_
    refine lv_isub hx hb dL_law_23 ?_
    refine lv_icmp_gt (tgt := 1400) hx hb dL_law_24 (by decide) (fun c24 => ?_) (fun c24 => ?_)
    · refine va_forget (fun q hq => hS.2.2 q hq) ?_
      refine lv_iconst (v := 1) hx hb dL_law_1400 (by decide) ?_
      refine W.widen (k := 600000) (n := 7302250) (Nat.le_of_ble_eq_true rfl) (Nat.le_of_ble_eq_true rfl) ?_
      exact lw_ret hx hb hr hlocks dL_law_1401
    · have hi : i + 6 ≤ L := by
        have e1 := pk_sub_toInt (a := L) (b := 6) (by omega) (by decide)
        have e2 := nI_toInt (n := i) (by omega)
        have c25 : ¬ (nI L - nI 6).toInt < (nI i).toInt := fun w => c24 ((fa_lt _ _).mpr w)
        rw [e1, e2] at c25
        omega
      refine lv_aload_n hx hb dL_law_27 rfl (lv_at hl 3 rfl) ?_
      refine lv_iload_n hx hb dL_law_28 rfl (lv_at hl 0 rfl) ?_
      refine va_sld hx hb hX hbl (Nat.not_le.mpr hbl) hS (vp_in_nI (by omega) (by omega)) dL_law_29 ?_
      refine lv_bipush (v := 63) hx hb dL_law_30 (by decide) ?_
      refine lv_iand hx hb dL_law_32 ?_
      refine law_switch hC hI hl hi (fun T V Ln B N hs cb tc tca tru tdf tsi tst tco twe tse tac trw vc vca vru vdf vsi vst vco vwe vse vac vrw il ib ra rs rst rc pcu ps pw pa prk ec ew ex cc et ea ee ed cl lo lf su sty ssz sel mc msi mwe mco mse mac mst minp mr mra ms mb mn mte mno mq ma mz md mp mex mt ml it mv kc ksi kwe kco kru kse kac kst H locs hI => ?_) _
      have e6 : nI i + 6 = nI (i + 6) := nI_add i 6
      refine lv_iinc (v := nI i + 6) (lv' := [(3, .int (nI i + 6)), (2, .ref (aM 0)), (1, .ref (aX 0)), (0, .ref b)]) hx hb dL_law_1394 hl (k := 0) rfl rfl (by decide) rfl (fun ls hl => ?_)
      refine lv_goto (tgt := 18) hx hb dL_law_1397 (by decide) ?_
      rw [e6] at hl
      exact ih (i + 6) T V Ln B N hs cb tc tca tru tdf tsi tst tco twe tse tac trw vc vca vru vdf vsi vst vco vwe vse vac vrw il ib ra rs rst rc pcu ps pw pa prk ec ew ex cc et ea ee ed cl lo lf su sty ssz sel mc msi mwe mco mse mac mst minp mr mra ms mb mn mte mno mq ma mz md mp mex mt ml it mv kc ksi kwe kco kru kse kac kst H locs ls hi (by omega) hI hl
end LOOP
