/-! THE CLAIM OUT OF ONE WALK OF THE LAW'S BODY. Your part is whole_start (and what it stands on); all else here is the same for every law, but numbers. -/
def R_law : String := "DecisionTableCompilerLaw"
def lw_P (b : Addr) (xs : List Int32) (args : Array Value) (s : State) : Prop := args = #[.ref b] ∧ s.IntsAt b xs ∧ xs.length ≤ 3072 ∧ (Jvm.Cond.and given_1 narrow_1).before args s = true
def lw_Q (_ : Array Value) (s : State) (o : Outcome) (t : State) : Prop := o = .returned (some (.int 1)) ∧ Framed s o t [] 600000 7302250
def lw_Z (below : List Frame) (a : Array Value) (s : State) : State → Prop := fun t => ∃ o, t.status = .running ∧ Ended t below o ∧ lw_Q a s o t
/-- the law's own end, with 1 on the stack, nothing written that was there before, its room as the claim has it -/
theorem lw_ret {p : Program} {l : Launch} {e : Env} {s : State} {m : MethodId} {below : List Frame} {meth : Method} {c : Code} {b : Nat} (hx : p.tables.exec = Jvm.exec) (hb : c.code = code) (hr : meth.sig.returnType = ret) (hlocks : meth.locks = false) {pc : Nat} {H : Heap} {ls : Array Slot} (hdg : decode code pc = .ok (.ireturn, 1)) : W p l e room_1 s m #[Value.ref b] below meth c H [] 600000 7302250 (lw_Z below #[Value.ref b] s) (F0 m pc ls [.int 1]) := by
  intro T hT X
  obtain ⟨fs, hret, hrun, hended, hW, hframe⟩ := X.leave (v := some (.int 1)) (hlocks := hlocks) (fun h => by rw [hr] at h; cases h)
  have hmeth' : T.vm.method? m = some meth := X.method'
  refine ⟨T.setFrames fs, ?_, .returned (some (.int 1)), hrun, hended, rfl, ⟨_, rfl⟩, hW, hframe⟩
  jvm_step X.here [X.here.top, hx, hb, hdg, hmeth', hr, ret, narrow_b1]
  (try refine ⟨rfl, ?_⟩); (try refine ⟨rfl, ?_⟩)
  first | (intro acts; rw [hret _ acts rfl rfl rfl]) | rw [hret _ _ rfl rfl rfl]
  exact Steps.refl _
/-- what holds at the law's entry: the machine, the code, the tables' words (any of lw_tbl by 'hts w (by decide +kernel)'), the script of L ints xs at the cell b, what the Statement gives of the start (any of its parts by flat_of_before) -/
def lw_At (p : Program) (s : State) (m : MethodId) (meth : Method) (c : Code) (b L : Nat) (xs : Nat → Int32) : Prop :=
  p.tables.exec = Jvm.exec ∧ c.code = code ∧ meth.sig.returnType = ret ∧ c.maxLocals = 4 ∧ s.vm.findClass R_law = some m.cls ∧ (∀ w ∈ lw_tbl, w.before #[Value.ref b] s = true) ∧ va_X b L xs s s.heap ∧ b < s.heap.size ∧ meth.locks = false ∧ (Jvm.Cond.and given_1 narrow_1).before #[Value.ref b] s = true
abbrev LW (p : Program) (l : Launch) (e : Env) (s : State) (m : MethodId) (below : List Frame) (meth : Method) (c : Code) (b : Nat) (H : Heap) (locs : List Loc) (pc : Nat) (ls : Array Slot) (st : List Value) : Prop := W p l e room_1 s m #[Value.ref b] below meth c H locs 69 23970 (lw_Z below #[Value.ref b] s) (F0 m pc ls st)
/-- what stays the same all along the law -/
def LC (p : Program) (s : State) (m : MethodId) (c : Code) (b L : Nat) (xs : Nat → Int32) (D : va_G) (g : Nat → ClassId) : Prop := p.tables.exec = Jvm.exec ∧ c.code = code ∧ c.maxLocals = 4 ∧ s.vm.findClass RL = some m.cls ∧ (∀ w ∈ wsL_law, w.before #[Value.ref b] s = true) ∧ va_X b L xs s s.heap ∧ b < s.heap.size ∧ KK D g s ∧ L ≤ 3072
/-- the two objects hold one table, one input, one tree, one set of arrays -/
def LI (s : State) (D : va_G) (g : Nat → ClassId) (aX aT aV aI aR aP aE aS0 aS1 aS2 aS3 aM : Nat → Nat) (T : Tb) (V : Tb) (Ln : Nat) (B : Nat → Nat) (N : Nat) (hs : Bool) (cb : Bool) (tc : Int32) (tca : Int32) (tru : Int32) (tdf : Int32) (tsi : Nat → Int32) (tst : Nat → Int32) (tco : Nat → Int32) (twe : Nat → Int32) (tse : Nat → Int32) (tac : Nat → Int32) (trw : Nat → Int32) (vc : Int32) (vca : Int32) (vru : Int32) (vdf : Int32) (vsi : Nat → Int32) (vst : Nat → Int32) (vco : Nat → Int32) (vwe : Nat → Int32) (vse : Nat → Int32) (vac : Nat → Int32) (vrw : Nat → Int32) (il : Int32) (ib : Nat → Int32) (ra : Int32) (rs : Nat → Int32) (rst : Int32) (rc : Int32) (pcu : Int32) (ps : Nat → Int32) (pw : Nat → Int32) (pa : Nat → Int32) (prk : Nat → Int64) (ec : Int32) (ew : Int32) (ex : Int64) (cc : Int32) (et : Nat → Int32) (ea : Nat → Int32) (ee : Nat → Int32) (ed : Nat → Int32) (cl : Nat → Int32) (lo : Nat → Int32) (lf : Nat → Int32) (su : Nat → Bool) (sty : Nat → Int32) (ssz : Nat → Int32) (sel : Nat → Nat → Int64) (mc : Int32) (msi : Nat → Int32) (mwe : Nat → Int32) (mco : Nat → Int32) (mse : Nat → Int32) (mac : Nat → Int32) (mst : Int32) (minp : Nat → Int32) (mr : Nat → Int32) (mra : Int32) (ms : Nat → Int32) (mb : Nat → Int64) (mn : Nat → Int32) (mte : Nat → Int32) (mno : Int32) (mq : Nat → Int32) (ma : Nat → Int32) (mz : Nat → Int32) (md : Nat → Int32) (mp : Nat → Int32) (mex : Int64) (mt : Nat → Int32) (ml : Nat → Int32) (it : Nat → Int64) (mv : Nat → Int64) (kc : Int32) (ksi : Nat → Int32) (kwe : Nat → Int32) (kco : Nat → Int32) (kru : Int32) (kse : Nat → Int32) (kac : Nat → Int32) (kst : Int32) (H : Heap) (locs : List Loc) : Prop := (TOk T ∧ XT T tc tca tru tdf tsi tst tco twe tse tac trw ∧ MT T mc tru mst msi mwe mco mse mac) ∧ (hs = true → TOk V ∧ XT V vc vca vru vdf vsi vst vco vwe vse vac vrw ∧ MT V kc kru kst ksi kwe kco kse kac) ∧ IR Ln B il ib il minp ∧ (cb = true → TR T ec ew ex et ea ee ed mno mq ma mz md mp mex ∧ CS T cc cl lo) ∧ (mno = nI N ∧ N ≤ 781) ∧ SL su sty ssz sel mt ml it ∧ TW D (fun q : Nat => s.heap.size ≤ q) (W6 g aX aT aV aI aR aP aE aS0 aS1 aS2 aS3 hs cb tc tca tru tdf tsi tst tco twe tse tac trw vc vca vru vdf vsi vst vco vwe vse vac vrw il ib ra rs rst rc pcu ps pw pa prk ec ew ex cc et ea ee ed cl lo lf (su 0) (sty 0) (ssz 0) (sel 0) (su 1) (sty 1) (ssz 1) (sel 1) (su 2) (sty 2) (ssz 2) (sel 2) (su 3) (sty 3) (ssz 3) (sel 3)) (wX7 g aM mc msi mwe mco tru mse mac mst cb minp il mr mra ms mb mn mte mno mq ma mz md mp mex mt ml it mv hs kc ksi kwe kco kru kse kac kst) H ∧ va_S (fun q : Nat => s.heap.size ≤ q) s.heap H locs
/-- what the law does behind a case -/
def LK (p : Program) (l : Launch) (e : Env) (s : State) (m : MethodId) (below : List Frame) (meth : Method) (c : Code) (b : Nat) (D : va_G) (g : Nat → ClassId) (aX aT aV aI aR aP aE aS0 aS1 aS2 aS3 aM : Nat → Nat) (ls : Array Slot) : Prop := ∀ (T : Tb) (V : Tb) (Ln : Nat) (B : Nat → Nat) (N : Nat) (hs : Bool) (cb : Bool) (tc : Int32) (tca : Int32) (tru : Int32) (tdf : Int32) (tsi : Nat → Int32) (tst : Nat → Int32) (tco : Nat → Int32) (twe : Nat → Int32) (tse : Nat → Int32) (tac : Nat → Int32) (trw : Nat → Int32) (vc : Int32) (vca : Int32) (vru : Int32) (vdf : Int32) (vsi : Nat → Int32) (vst : Nat → Int32) (vco : Nat → Int32) (vwe : Nat → Int32) (vse : Nat → Int32) (vac : Nat → Int32) (vrw : Nat → Int32) (il : Int32) (ib : Nat → Int32) (ra : Int32) (rs : Nat → Int32) (rst : Int32) (rc : Int32) (pcu : Int32) (ps : Nat → Int32) (pw : Nat → Int32) (pa : Nat → Int32) (prk : Nat → Int64) (ec : Int32) (ew : Int32) (ex : Int64) (cc : Int32) (et : Nat → Int32) (ea : Nat → Int32) (ee : Nat → Int32) (ed : Nat → Int32) (cl : Nat → Int32) (lo : Nat → Int32) (lf : Nat → Int32) (su : Nat → Bool) (sty : Nat → Int32) (ssz : Nat → Int32) (sel : Nat → Nat → Int64) (mc : Int32) (msi : Nat → Int32) (mwe : Nat → Int32) (mco : Nat → Int32) (mse : Nat → Int32) (mac : Nat → Int32) (mst : Int32) (minp : Nat → Int32) (mr : Nat → Int32) (mra : Int32) (ms : Nat → Int32) (mb : Nat → Int64) (mn : Nat → Int32) (mte : Nat → Int32) (mno : Int32) (mq : Nat → Int32) (ma : Nat → Int32) (mz : Nat → Int32) (md : Nat → Int32) (mp : Nat → Int32) (mex : Int64) (mt : Nat → Int32) (ml : Nat → Int32) (it : Nat → Int64) (mv : Nat → Int64) (kc : Int32) (ksi : Nat → Int32) (kwe : Nat → Int32) (kco : Nat → Int32) (kru : Int32) (kse : Nat → Int32) (kac : Nat → Int32) (kst : Int32) (H : Heap) (locs : List Loc), LI s D g aX aT aV aI aR aP aE aS0 aS1 aS2 aS3 aM T V Ln B N hs cb tc tca tru tdf tsi tst tco twe tse tac trw vc vca vru vdf vsi vst vco vwe vse vac vrw il ib ra rs rst rc pcu ps pw pa prk ec ew ex cc et ea ee ed cl lo lf su sty ssz sel mc msi mwe mco mse mac mst minp mr mra ms mb mn mte mno mq ma mz md mp mex mt ml it mv kc ksi kwe kco kru kse kac kst H locs → LW p l e s m below meth c b H locs 1394 ls []
theorem lg_self (r : Int64) : lg_cmp r r = 0 := (lg_cmp_eq r r).mpr rfl
section AR
variable {p : Program} {l : Launch} {e : Env} {s : State} {m : MethodId} {below : List Frame} {meth : Method} {c : Code} {b L : Nat} {xs : Nat → Int32} {D : va_G} {g : Nat → ClassId} {H : Heap} {locs : List Loc} {pc lx lm i : Nat} {ls : Array Slot} {rest : List Value}
theorem arg1 (hC : LC p s m c b L xs D g) (hS : va_S (fun q : Nat => s.heap.size ≤ q) s.heap H locs) (hl : lv_has ls 4 [(3, .int (nI i)), (2, .ref lm), (1, .ref lx), (0, .ref b)]) (hi : i + 6 ≤ L) (d0 : decode code pc = .ok (.aload_n 0, 1)) (d1 : decode code (pc + 1) = .ok (.iload_n 3, 1)) (d2 : decode code (pc + 1 + 1) = .ok (.iconst 1, 1)) (d3 : decode code (pc + 1 + 1 + 1) = .ok (.iadd, 1)) (d4 : decode code (pc + 1 + 1 + 1 + 1) = .ok (.iaload, 1)) (kk : LW p l e s m below meth c b H locs (pc + 1 + 1 + 1 + 1 + 1) ls (.int (xs (i + 1)) :: rest)) : LW p l e s m below meth c b H locs pc ls rest := by
  obtain ⟨hx, hb, hml, hown, hts, hX, hbl, hK, hL⟩ := hC
  have e1 : nI i + 1 = nI (i + 1) := nI_add i 1
  refine lv_aload_n hx hb d0 rfl (lv_at hl 3 rfl) ?_
  refine lv_iload_n hx hb d1 rfl (lv_at hl 0 rfl) ?_
  refine lv_iconst (v := 1) hx hb d2 (by decide) ?_
  refine lv_iadd hx hb d3 ?_
  rw [e1]
  refine va_sld hx hb hX hbl (Nat.not_le.mpr hbl) hS (vp_in_nI (by omega) (by omega)) d4 ?_
  rw [nI_clamp (by omega)]
  exact kk
theorem arg2 (hC : LC p s m c b L xs D g) (hS : va_S (fun q : Nat => s.heap.size ≤ q) s.heap H locs) (hl : lv_has ls 4 [(3, .int (nI i)), (2, .ref lm), (1, .ref lx), (0, .ref b)]) (hi : i + 6 ≤ L) (d0 : decode code pc = .ok (.aload_n 0, 1)) (d1 : decode code (pc + 1) = .ok (.iload_n 3, 1)) (d2 : decode code (pc + 1 + 1) = .ok (.iconst 2, 1)) (d3 : decode code (pc + 1 + 1 + 1) = .ok (.iadd, 1)) (d4 : decode code (pc + 1 + 1 + 1 + 1) = .ok (.iaload, 1)) (kk : LW p l e s m below meth c b H locs (pc + 1 + 1 + 1 + 1 + 1) ls (.int (xs (i + 2)) :: rest)) : LW p l e s m below meth c b H locs pc ls rest := by
  obtain ⟨hx, hb, hml, hown, hts, hX, hbl, hK, hL⟩ := hC
  have e1 : nI i + 2 = nI (i + 2) := nI_add i 2
  refine lv_aload_n hx hb d0 rfl (lv_at hl 3 rfl) ?_
  refine lv_iload_n hx hb d1 rfl (lv_at hl 0 rfl) ?_
  refine lv_iconst (v := 2) hx hb d2 (by decide) ?_
  refine lv_iadd hx hb d3 ?_
  rw [e1]
  refine va_sld hx hb hX hbl (Nat.not_le.mpr hbl) hS (vp_in_nI (by omega) (by omega)) d4 ?_
  rw [nI_clamp (by omega)]
  exact kk
theorem arg3 (hC : LC p s m c b L xs D g) (hS : va_S (fun q : Nat => s.heap.size ≤ q) s.heap H locs) (hl : lv_has ls 4 [(3, .int (nI i)), (2, .ref lm), (1, .ref lx), (0, .ref b)]) (hi : i + 6 ≤ L) (d0 : decode code pc = .ok (.aload_n 0, 1)) (d1 : decode code (pc + 1) = .ok (.iload_n 3, 1)) (d2 : decode code (pc + 1 + 1) = .ok (.iconst 3, 1)) (d3 : decode code (pc + 1 + 1 + 1) = .ok (.iadd, 1)) (d4 : decode code (pc + 1 + 1 + 1 + 1) = .ok (.iaload, 1)) (kk : LW p l e s m below meth c b H locs (pc + 1 + 1 + 1 + 1 + 1) ls (.int (xs (i + 3)) :: rest)) : LW p l e s m below meth c b H locs pc ls rest := by
  obtain ⟨hx, hb, hml, hown, hts, hX, hbl, hK, hL⟩ := hC
  have e1 : nI i + 3 = nI (i + 3) := nI_add i 3
  refine lv_aload_n hx hb d0 rfl (lv_at hl 3 rfl) ?_
  refine lv_iload_n hx hb d1 rfl (lv_at hl 0 rfl) ?_
  refine lv_iconst (v := 3) hx hb d2 (by decide) ?_
  refine lv_iadd hx hb d3 ?_
  rw [e1]
  refine va_sld hx hb hX hbl (Nat.not_le.mpr hbl) hS (vp_in_nI (by omega) (by omega)) d4 ?_
  rw [nI_clamp (by omega)]
  exact kk
theorem arg4 (hC : LC p s m c b L xs D g) (hS : va_S (fun q : Nat => s.heap.size ≤ q) s.heap H locs) (hl : lv_has ls 4 [(3, .int (nI i)), (2, .ref lm), (1, .ref lx), (0, .ref b)]) (hi : i + 6 ≤ L) (d0 : decode code pc = .ok (.aload_n 0, 1)) (d1 : decode code (pc + 1) = .ok (.iload_n 3, 1)) (d2 : decode code (pc + 1 + 1) = .ok (.iconst 4, 1)) (d3 : decode code (pc + 1 + 1 + 1) = .ok (.iadd, 1)) (d4 : decode code (pc + 1 + 1 + 1 + 1) = .ok (.iaload, 1)) (kk : LW p l e s m below meth c b H locs (pc + 1 + 1 + 1 + 1 + 1) ls (.int (xs (i + 4)) :: rest)) : LW p l e s m below meth c b H locs pc ls rest := by
  obtain ⟨hx, hb, hml, hown, hts, hX, hbl, hK, hL⟩ := hC
  have e1 : nI i + 4 = nI (i + 4) := nI_add i 4
  refine lv_aload_n hx hb d0 rfl (lv_at hl 3 rfl) ?_
  refine lv_iload_n hx hb d1 rfl (lv_at hl 0 rfl) ?_
  refine lv_iconst (v := 4) hx hb d2 (by decide) ?_
  refine lv_iadd hx hb d3 ?_
  rw [e1]
  refine va_sld hx hb hX hbl (Nat.not_le.mpr hbl) hS (vp_in_nI (by omega) (by omega)) d4 ?_
  rw [nI_clamp (by omega)]
  exact kk
theorem arg5 (hC : LC p s m c b L xs D g) (hS : va_S (fun q : Nat => s.heap.size ≤ q) s.heap H locs) (hl : lv_has ls 4 [(3, .int (nI i)), (2, .ref lm), (1, .ref lx), (0, .ref b)]) (hi : i + 6 ≤ L) (d0 : decode code pc = .ok (.aload_n 0, 1)) (d1 : decode code (pc + 1) = .ok (.iload_n 3, 1)) (d2 : decode code (pc + 1 + 1) = .ok (.iconst 5, 1)) (d3 : decode code (pc + 1 + 1 + 1) = .ok (.iadd, 1)) (d4 : decode code (pc + 1 + 1 + 1 + 1) = .ok (.iaload, 1)) (kk : LW p l e s m below meth c b H locs (pc + 1 + 1 + 1 + 1 + 1) ls (.int (xs (i + 5)) :: rest)) : LW p l e s m below meth c b H locs pc ls rest := by
  obtain ⟨hx, hb, hml, hown, hts, hX, hbl, hK, hL⟩ := hC
  have e1 : nI i + 5 = nI (i + 5) := nI_add i 5
  refine lv_aload_n hx hb d0 rfl (lv_at hl 3 rfl) ?_
  refine lv_iload_n hx hb d1 rfl (lv_at hl 0 rfl) ?_
  refine lv_iconst (v := 5) hx hb d2 (by decide) ?_
  refine lv_iadd hx hb d3 ?_
  rw [e1]
  refine va_sld hx hb hX hbl (Nat.not_le.mpr hbl) hS (vp_in_nI (by omega) (by omega)) d4 ?_
  rw [nI_clamp (by omega)]
  exact kk
end AR
section EQ
variable {T : Tb} {tc tca tru tdf : Int32} {tsi tst tco twe tse tac trw : Nat → Int32} {mc mru mst : Int32} {msi mwe mco mse mac : Nat → Int32}
theorem eq_conditionCount (hX : XT T tc tca tru tdf tsi tst tco twe tse tac trw) (hM : MT T mc mru mst msi mwe mco mse mac) : ∃ r, f_X6_conditionCount tc = some r ∧ f_X7_conditionCount mc = some r := ⟨nI (tn T), by rw [hX.n]; rfl, by rw [hM.n]; rfl⟩
theorem eq_caseCount (hT : TOk T) (hX : XT T tc tca tru tdf tsi tst tco twe tse tac trw) (hM : MT T mc mru mst msi mwe mco mse mac) : ∃ r, f_X6_caseCount tca = some r ∧ f_X7_caseCount mc msi = some r := ⟨nI (cas T), by rw [hX.ca]; rfl, by unfold f_X7_caseCount; rw [m_cases hT hM, bd_go]⟩
theorem IR_0 {Ln : Nat} {B : Nat → Nat} {il mty : Int32} {ib minp : Nat → Int32} (_h : IR Ln B il ib mty minp) : IR 0 B 0 ib 0 minp := ⟨rfl, rfl, Nat.zero_le _, fun i h => absurd h (Nat.not_lt_zero i), fun i h => absurd h (Nat.not_lt_zero i), fun i h => absurd h (Nat.not_lt_zero i)⟩
end EQ
