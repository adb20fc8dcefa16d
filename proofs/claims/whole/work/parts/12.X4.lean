theorem pd_X4_digitOf : yX4_digitOf.cls ≠ "java/lang/invoke/MethodHandle" ∧ yX4_digitOf.cls ≠ "java/lang/invoke/VarHandle" ∧ (parseMethodDescriptor yX4_digitOf.desc).map (fun d => d.parameters.length) = some 2 := by decide +kernel
def f_X4_digitOf (t_sizes : Nat → Int32) (t_strides : Nat → Int32) (x1 : Int32) (x2 : Int32) : Option (Int32) :=
  (rd 4 t_strides x2 fun z6 => (Option.bind (f_X6_quotient x1 z6) fun z7 => (nm (t_sizes x2.toNatClampNeg) fun z15 => (Option.bind (f_X6_remainder z7 z15) fun z16 => (some z16)))))
set_option maxHeartbeats 4000000 in
set_option maxRecDepth 100000 in
theorem c_X4_digitOf (l : Launch) (D : va_G) (g : Nat → ClassId) (aT : Nat → Nat) (t_conditions : Int32) (t_cases : Int32) (t_rules : Int32) (t_defaultAction : Int32) (t_sizes : Nat → Int32) (t_strides : Nat → Int32) (t_costs : Nat → Int32) (t_weights : Nat → Int32) (t_sets : Nat → Int32) (t_actions : Nat → Int32) (t_rulesWith : Nat → Int32) (x1 : Int32) (x2 : Int32) (r : Int32) (hf : f_X4_digitOf t_sizes t_strides x1 x2 = some r) : CR l yX4_digitOf wsX4_digitOf 1 21 D g [.ref (aT 0), .int x1, .int x2] (wX4 g aT t_conditions t_cases t_rules t_defaultAction t_sizes t_strides t_costs t_weights t_sets t_actions t_rulesWith) (QRi r) := by
  refine Met.ofW (cc := cX4_digitOf) (maxL := 3) (ret := (some .int)) (by decide) rfl ?_
  intro p e s m args below meth c s₁ B hml hv
  obtain ⟨rfl, hP, hK⟩ := hv
  have hx := B.exec
  have hb := B.bytes
  have hr := B.returns
  have hts := atoms_spec (ws := wsX4_digitOf) B.pre
  have hown : s.vm.findClass RX4 = some m.cls := findClass_of_methodNamed B.named
  have hlocks := B.notSynchronized
  have hh0 := (show ∀ w ∈ wsX40, w ∈ wsX4_digitOf from by decide +kernel)
  have hh1 := hts (.fieldLink RX4 15 "DecisionTableCompiler$Table" "strides" "[I") (by decide +kernel)
  have hh2 := hts (.initialized RX6) (by decide +kernel)
  have hh3 := hts (.static yX6_quotient) (by decide +kernel)
  have hh4 := hts (.fieldLink RX4 9 "DecisionTableCompiler$Table" "sizes" "[I") (by decide +kernel)
  have hh5 := hts (.static yX6_remainder) (by decide +kernel)
  have hl := lv_entry ([.ref (aT 0), .int x1, .int x2]) (n := 3) (Nat.le_of_ble_eq_true rfl)
  rw [lg_entry_eq]
  generalize (lg_sl ([.ref (aT 0), .int x1, .int x2]) ++ List.replicate (3 - (lg_sl ([.ref (aT 0), .int x1, .int x2])).length) Slot.unset).toArray = ls at hl ⊢
  replace hl : lv_has ls 3 [(0, .ref (aT 0)), (1, .int x1), (2, .int x2)] := hl
  have h := hf
  unfold f_X4_digitOf at h
  refine lv_iload_n hx hb dX4_digitOf_0 rfl (lv_at hl 1 rfl) ?_
  refine lv_aload_n hx hb dX4_digitOf_1 rfl (lv_at hl 0 rfl) ?_
  refine va_get (D := D) (ci := 4) (v := .ref (aT 2)) (C := RX4) (T := TX4) (N := 11) hx hb hts hh0 hown hK.1 hP 0 rfl rfl 5 (by decide) hh1 (fun _ h9 => h9) rfl dX4_digitOf_2 ?_
  refine lv_iload_n hx hb dX4_digitOf_5 rfl (lv_at hl 2 rfl) ?_
  have iz6 := rd_in h
  refine va_iald hx hb hK.1 hP 2 0 rfl rfl (rd_in h) dX4_digitOf_6 (lv_topi (fun z6 ez6 => ?_))
  replace h := rd_k h ez6
  obtain ⟨z7, e_7, h⟩ := bd_s h
  refine cr_i (va_runSN (As := [.int x1, .int z6]) (rest := []) ⟨hx, hb, hml, hown, hts⟩ (c_X6_quotient l D g x1 z6 z7 e_7) ⟨va_cnB 2 hts gX4_digitOf_X6_quotient_n62 rfl rfl rfl hK.2.2.2.1 hh2 pd_X6_quotient ⟨Nat.le_of_ble_eq_true rfl, Nat.le_of_ble_eq_true rfl⟩, hh3, trivial⟩ (pr_s hK P_nil) rfl rfl hl.1 rfl (lv_room (Nat.le_of_ble_eq_true rfl)) dX4_digitOf_7 ⟨Nat.zero_le _, Nat.zero_le _⟩) ?_
  refine lv_aload_n hx hb dX4_digitOf_10 rfl (lv_at hl 0 rfl) ?_
  refine va_get (D := D) (ci := 4) (v := .ref (aT 1)) (C := RX4) (T := TX4) (N := 11) hx hb hts hh0 hown hK.1 hP 0 rfl rfl 4 (by decide) hh4 (fun _ h9 => h9) rfl dX4_digitOf_11 ?_
  refine lv_iload_n hx hb dX4_digitOf_14 rfl (lv_at hl 2 rfl) ?_
  have iz15 := iz6
  refine va_iald hx hb hK.1 hP 1 0 rfl rfl iz15 dX4_digitOf_15 (lv_topi (fun z15 ez15 => ?_))
  replace h := nm_n h ez15
  obtain ⟨z16, e_16, h⟩ := bd_s h
  refine cr_i (va_runSN (As := [.int z7, .int z15]) (rest := []) ⟨hx, hb, hml, hown, hts⟩ (c_X6_remainder l D g z7 z15 z16 e_16) ⟨va_cnB 2 hts gX4_digitOf_X6_remainder_n66 rfl rfl rfl hK.2.2.2.2 hh2 pd_X6_remainder ⟨Nat.le_of_ble_eq_true rfl, Nat.le_of_ble_eq_true rfl⟩, hh5, trivial⟩ (pr_s hK P_nil) rfl rfl hl.1 rfl (lv_room (Nat.le_of_ble_eq_true rfl)) dX4_digitOf_16 ⟨Nat.zero_le _, Nat.zero_le _⟩) ?_
  replace h := Option.some.inj h
  subst h
  exact W.iret hx hb hr (fun t ht hW => ⟨_, rfl, rfl, ht⟩) (fun q hq => by cases hq) dX4_digitOf_19
theorem pd_X4_weightOf : yX4_weightOf.cls ≠ "java/lang/invoke/MethodHandle" ∧ yX4_weightOf.cls ≠ "java/lang/invoke/VarHandle" ∧ (parseMethodDescriptor yX4_weightOf.desc).map (fun d => d.parameters.length) = some 1 := by decide +kernel
def f_X4_weightOf_s4 (t_conditions : Int32) (t_sizes : Nat → Int32) (t_strides : Nat → Int32) (t_weights : Nat → Int32) (x1 : Int32) (v2_4 : Int32) (v3_4 : Int32) : Option ((Int32 × Int32) ⊕ (Int32)) :=
  (if t_conditions ≤ v3_4 then (some (.inr v2_4)) else (Option.bind (f_X4_digitOf t_sizes t_strides x1 v3_4) fun z23 => (rd 20 t_weights ((v3_4 * (5 : Int32)) + z23) fun z27 => (some (.inl ((v2_4 * z27), (v3_4 + 1)))))))
def f_X4_weightOf (t_conditions : Int32) (t_sizes : Nat → Int32) (t_strides : Nat → Int32) (t_weights : Nat → Int32) (x1 : Int32) : Option (Int32) :=
  (wl (fun q => f_X4_weightOf_s4 t_conditions t_sizes t_strides t_weights x1 q.1 q.2) 5000 ((1 : Int32), (0 : Int32)))
set_option maxHeartbeats 4000000 in
set_option maxRecDepth 100000 in
theorem c_X4_weightOf (l : Launch) (D : va_G) (g : Nat → ClassId) (aT : Nat → Nat) (t_conditions : Int32) (t_cases : Int32) (t_rules : Int32) (t_defaultAction : Int32) (t_sizes : Nat → Int32) (t_strides : Nat → Int32) (t_costs : Nat → Int32) (t_weights : Nat → Int32) (t_sets : Nat → Int32) (t_actions : Nat → Int32) (t_rulesWith : Nat → Int32) (x1 : Int32) (r : Int32) (hf : f_X4_weightOf t_conditions t_sizes t_strides t_weights x1 = some r) : CR l yX4_weightOf wsX4_weightOf 2 43 D g [.ref (aT 0), .int x1] (wX4 g aT t_conditions t_cases t_rules t_defaultAction t_sizes t_strides t_costs t_weights t_sets t_actions t_rulesWith) (QRi r) := by
  refine Met.ofW (cc := cX4_weightOf) (maxL := 4) (ret := (some .int)) (by decide) rfl ?_
  intro p e s m args below meth c s₁ B hml hv
  obtain ⟨rfl, hP, hK⟩ := hv
  have hx := B.exec
  have hb := B.bytes
  have hr := B.returns
  have hts := atoms_spec (ws := wsX4_weightOf) B.pre
  have hown : s.vm.findClass RX4 = some m.cls := findClass_of_methodNamed B.named
  have hlocks := B.notSynchronized
  have hh0 := (show ∀ w ∈ wsX40, w ∈ wsX4_weightOf from by decide +kernel)
  have hh1 := hts (.fieldLink RX4 33 "DecisionTableCompiler$Table" "conditions" "I") (by decide +kernel)
  have hh2 := hts (.fieldLink RX4 21 "DecisionTableCompiler$Table" "weights" "[I") (by decide +kernel)
  have hl := lv_entry ([.ref (aT 0), .int x1]) (n := 4) (Nat.le_of_ble_eq_true rfl)
  rw [lg_entry_eq]
  generalize (lg_sl ([.ref (aT 0), .int x1]) ++ List.replicate (4 - (lg_sl ([.ref (aT 0), .int x1])).length) Slot.unset).toArray = ls at hl ⊢
  replace hl : lv_has ls 4 [(0, .ref (aT 0)), (1, .int x1)] := hl
  have h := hf
  unfold f_X4_weightOf at h
  refine lv_iconst (v := 1) hx hb dX4_weightOf_0 (by decide) ?_
  refine lv_istore_n (lv' := [(2, .int (1 : Int32)), (0, .ref (aT 0)), (1, .int x1)]) hx hb dX4_weightOf_1 rfl hl (by decide) rfl (fun ls hl => ?_)
  refine lv_iconst (v := 0) hx hb dX4_weightOf_2 (by decide) ?_
  refine lv_istore_n (lv' := [(3, .int (0 : Int32)), (2, .int (1 : Int32)), (0, .ref (aT 0)), (1, .int x1)]) hx hb dX4_weightOf_3 rfl hl (by decide) rfl (fun ls hl => ?_)
  have lp4 : ∀ (n : Nat) (v2_4 : Int32) (v3_4 : Int32), wl (fun q => f_X4_weightOf_s4 t_conditions t_sizes t_strides t_weights x1 q.1 q.2) n (v2_4, v3_4) = some r → ∀ ls : Array Slot, lv_has ls 4 [(3, .int v3_4), (2, .int v2_4), (0, .ref (aT 0)), (1, .int x1)] → W p l e (headSpec wsX4_weightOf ({ frames := 2, cells := 0, slots := 0, locals := 43 })).room s m ([.ref (aT 0), .int x1] : List Value).toArray below meth c s.heap [] 0 0 (MQ below (QRi r) ([.ref (aT 0), .int x1] : List Value).toArray s 0 0 (fun _ => False)) (F0 m 4 ls []) := by
    intro n
    induction n with
    | zero =>
      intro v2_4 v3_4 h
      exact wl_0 h
    | succ n ih1 =>
      intro v2_4 v3_4 h ls hl
      obtain ⟨o1, h, k1⟩ := wl_s h
      replace h : f_X4_weightOf_s4 t_conditions t_sizes t_strides t_weights x1 v2_4 v3_4 = some o1 := h
      unfold f_X4_weightOf_s4 at h
      refine lv_iload_n hx hb dX4_weightOf_4 rfl (lv_at hl 0 rfl) ?_
      refine lv_aload_n hx hb dX4_weightOf_5 rfl (lv_at hl 2 rfl) ?_
      refine va_get (D := D) (ci := 4) (v := .int t_conditions) (C := RX4) (T := TX4) (N := 11) hx hb hts hh0 hown hK.1 hP 0 rfl rfl 0 (by decide) hh1 (fun _ h9 => h9) rfl dX4_weightOf_6 ?_
      refine lv_icmp_ge (tgt := 36) hx hb dX4_weightOf_9 (by decide) (fun c9 => ?_) (fun c9 => ?_)
      · replace h := ite_t c9 h
        refine lv_iload_n hx hb dX4_weightOf_36 rfl (lv_at hl 1 rfl) ?_
        replace h := Option.some.inj h
        subst h
        replace h := wk_r k1
        subst h
        exact W.iret hx hb hr (fun t ht hW => ⟨_, rfl, rfl, ht⟩) (fun q hq => by cases hq) dX4_weightOf_37
      · replace h := ite_f c9 h
        refine lv_iload_n hx hb dX4_weightOf_12 rfl (lv_at hl 1 rfl) ?_
        refine lv_aload_n hx hb dX4_weightOf_13 rfl (lv_at hl 2 rfl) ?_
        refine va_get (D := D) (ci := 4) (v := .ref (aT 4)) (C := RX4) (T := TX4) (N := 11) hx hb hts hh0 hown hK.1 hP 0 rfl rfl 7 (by decide) hh2 (fun _ h9 => h9) rfl dX4_weightOf_14 ?_
        refine lv_iload_n hx hb dX4_weightOf_17 rfl (lv_at hl 0 rfl) ?_
        refine lv_iconst (v := 5) hx hb dX4_weightOf_18 (by decide) ?_
        refine lv_imul hx hb dX4_weightOf_19 ?_
        refine lv_aload_n hx hb dX4_weightOf_20 rfl (lv_at hl 2 rfl) ?_
        refine lv_iload_n hx hb dX4_weightOf_21 rfl (lv_at hl 3 rfl) ?_
        refine lv_iload_n hx hb dX4_weightOf_22 rfl (lv_at hl 0 rfl) ?_
        obtain ⟨z23, e_23, h⟩ := bd_s h
        refine cr_i (va_runV (As := [.int x1, .int v3_4]) (rest := [.int (v3_4 * (5 : Int32)), .ref (aT 4), .int v2_4]) ⟨hx, hb, hml, hown, hts⟩ (c_X4_digitOf l D g aT t_conditions t_cases t_rules t_defaultAction t_sizes t_strides t_costs t_weights t_sets t_actions t_rulesWith x1 v3_4 z23 e_23) (cwV 2 hts gX4_weightOf_X4_digitOf rfl rfl rfl ⟨rfl, pd_X4_digitOf⟩ ⟨Nat.le_of_ble_eq_true rfl, Nat.le_of_ble_eq_true rfl⟩) (pr_v hK hP (q0 := 0) (ci := 4) rfl rfl rfl) rfl rfl hl.1 rfl (lv_room (Nat.le_of_ble_eq_true rfl)) dX4_weightOf_23 ⟨Nat.zero_le _, Nat.zero_le _⟩) ?_
        refine lv_iadd hx hb dX4_weightOf_26 ?_
        have iz27 := rd_in h
        refine va_iald hx hb hK.1 hP 4 0 rfl rfl (rd_in h) dX4_weightOf_27 (lv_topi (fun z27 ez27 => ?_))
        replace h := rd_k h ez27
        refine lv_imul hx hb dX4_weightOf_28 ?_
        refine lv_istore_n (lv' := [(2, .int (v2_4 * z27)), (3, .int v3_4), (0, .ref (aT 0)), (1, .int x1)]) hx hb dX4_weightOf_29 rfl hl (by decide) rfl (fun ls hl => ?_)
        refine lv_iinc (v := (v3_4 + 1)) (lv' := [(3, .int (v3_4 + 1)), (2, .int (v2_4 * z27)), (0, .ref (aT 0)), (1, .int x1)]) hx hb dX4_weightOf_30 hl (k := 1) rfl rfl (by decide) rfl (fun ls hl => ?_)
        refine lv_goto (tgt := 4) hx hb dX4_weightOf_33 (by decide) ?_
        replace h := Option.some.inj h
        subst h
        exact ih1 (v2_4 * z27) (v3_4 + 1) (wk_l k1) ls (lv_sub hl [0, 1, 2, 3] rfl)
  exact lp4 5000 (1 : Int32) (0 : Int32) h ls (lv_sub hl [0, 1, 2, 3] rfl)
theorem pd_X4_rulesFor : yX4_rulesFor.cls ≠ "java/lang/invoke/MethodHandle" ∧ yX4_rulesFor.cls ≠ "java/lang/invoke/VarHandle" ∧ (parseMethodDescriptor yX4_rulesFor.desc).map (fun d => d.parameters.length) = some 1 := by decide +kernel
def f_X4_rulesFor_s11 (t_conditions : Int32) (t_sizes : Nat → Int32) (t_strides : Nat → Int32) (t_rulesWith : Nat → Int32) (x1 : Int32) (v2_11 : Int32) (v3_11 : Int32) : Option ((Int32 × Int32) ⊕ (Int32)) :=
  (if t_conditions ≤ v3_11 then (some (.inr v2_11)) else (Option.bind (f_X4_digitOf t_sizes t_strides x1 v3_11) fun z30 => (rd 20 t_rulesWith ((v3_11 * (5 : Int32)) + z30) fun z34 => (some (.inl ((v2_11 &&& z34), (v3_11 + 1)))))))
def f_X4_rulesFor (t_conditions : Int32) (t_rules : Int32) (t_sizes : Nat → Int32) (t_strides : Nat → Int32) (t_rulesWith : Nat → Int32) (x1 : Int32) : Option (Int32) :=
  (nm (((1 : Int32) <<< (t_rules &&& 31)) - (1 : Int32)) fun z8 => (wl (fun q => f_X4_rulesFor_s11 t_conditions t_sizes t_strides t_rulesWith x1 q.1 q.2) 5000 (z8, (0 : Int32))))
set_option maxHeartbeats 4000000 in
set_option maxRecDepth 100000 in
theorem c_X4_rulesFor (l : Launch) (D : va_G) (g : Nat → ClassId) (aT : Nat → Nat) (t_conditions : Int32) (t_cases : Int32) (t_rules : Int32) (t_defaultAction : Int32) (t_sizes : Nat → Int32) (t_strides : Nat → Int32) (t_costs : Nat → Int32) (t_weights : Nat → Int32) (t_sets : Nat → Int32) (t_actions : Nat → Int32) (t_rulesWith : Nat → Int32) (x1 : Int32) (r : Int32) (hf : f_X4_rulesFor t_conditions t_rules t_sizes t_strides t_rulesWith x1 = some r) : CR l yX4_rulesFor wsX4_rulesFor 2 43 D g [.ref (aT 0), .int x1] (wX4 g aT t_conditions t_cases t_rules t_defaultAction t_sizes t_strides t_costs t_weights t_sets t_actions t_rulesWith) (QRi r) := by
  refine Met.ofW (cc := cX4_rulesFor) (maxL := 4) (ret := (some .int)) (by decide) rfl ?_
  intro p e s m args below meth c s₁ B hml hv
  obtain ⟨rfl, hP, hK⟩ := hv
  have hx := B.exec
  have hb := B.bytes
  have hr := B.returns
  have hts := atoms_spec (ws := wsX4_rulesFor) B.pre
  have hown : s.vm.findClass RX4 = some m.cls := findClass_of_methodNamed B.named
  have hlocks := B.notSynchronized
  have hh0 := (show ∀ w ∈ wsX40, w ∈ wsX4_rulesFor from by decide +kernel)
  have hh1 := hts (.fieldLink RX4 40 "DecisionTableCompiler$Table" "rules" "I") (by decide +kernel)
  have hh2 := hts (.fieldLink RX4 33 "DecisionTableCompiler$Table" "conditions" "I") (by decide +kernel)
  have hh3 := hts (.fieldLink RX4 30 "DecisionTableCompiler$Table" "rulesWith" "[I") (by decide +kernel)
  have hl := lv_entry ([.ref (aT 0), .int x1]) (n := 4) (Nat.le_of_ble_eq_true rfl)
  rw [lg_entry_eq]
  generalize (lg_sl ([.ref (aT 0), .int x1]) ++ List.replicate (4 - (lg_sl ([.ref (aT 0), .int x1])).length) Slot.unset).toArray = ls at hl ⊢
  replace hl : lv_has ls 4 [(0, .ref (aT 0)), (1, .int x1)] := hl
  have h := hf
  unfold f_X4_rulesFor at h
  refine lv_iconst (v := 1) hx hb dX4_rulesFor_0 (by decide) ?_
  refine lv_aload_n hx hb dX4_rulesFor_1 rfl (lv_at hl 0 rfl) ?_
  refine va_get (D := D) (ci := 4) (v := .int t_rules) (C := RX4) (T := TX4) (N := 11) hx hb hts hh0 hown hK.1 hP 0 rfl rfl 2 (by decide) hh1 (fun _ h9 => h9) rfl dX4_rulesFor_2 ?_
  refine lv_ishl hx hb dX4_rulesFor_5 ?_
  refine lv_iconst (v := 1) hx hb dX4_rulesFor_6 (by decide) ?_
  refine lv_isub hx hb dX4_rulesFor_7 ?_
  refine lv_topi (fun z8 ez8 => ?_)
  replace h := nm_n h ez8
  refine lv_istore_n (lv' := [(2, .int z8), (0, .ref (aT 0)), (1, .int x1)]) hx hb dX4_rulesFor_8 rfl hl (by decide) rfl (fun ls hl => ?_)
  refine lv_iconst (v := 0) hx hb dX4_rulesFor_9 (by decide) ?_
  refine lv_istore_n (lv' := [(3, .int (0 : Int32)), (2, .int z8), (0, .ref (aT 0)), (1, .int x1)]) hx hb dX4_rulesFor_10 rfl hl (by decide) rfl (fun ls hl => ?_)
  have lp11 : ∀ (n : Nat) (v2_11 : Int32) (v3_11 : Int32), wl (fun q => f_X4_rulesFor_s11 t_conditions t_sizes t_strides t_rulesWith x1 q.1 q.2) n (v2_11, v3_11) = some r → ∀ ls : Array Slot, lv_has ls 4 [(3, .int v3_11), (2, .int v2_11), (0, .ref (aT 0)), (1, .int x1)] → W p l e (headSpec wsX4_rulesFor ({ frames := 2, cells := 0, slots := 0, locals := 43 })).room s m ([.ref (aT 0), .int x1] : List Value).toArray below meth c s.heap [] 0 0 (MQ below (QRi r) ([.ref (aT 0), .int x1] : List Value).toArray s 0 0 (fun _ => False)) (F0 m 11 ls []) := by
    intro n
    induction n with
    | zero =>
      intro v2_11 v3_11 h
      exact wl_0 h
    | succ n ih1 =>
      intro v2_11 v3_11 h ls hl
      obtain ⟨o1, h, k1⟩ := wl_s h
      replace h : f_X4_rulesFor_s11 t_conditions t_sizes t_strides t_rulesWith x1 v2_11 v3_11 = some o1 := h
      unfold f_X4_rulesFor_s11 at h
      refine lv_iload_n hx hb dX4_rulesFor_11 rfl (lv_at hl 0 rfl) ?_
      refine lv_aload_n hx hb dX4_rulesFor_12 rfl (lv_at hl 2 rfl) ?_
      refine va_get (D := D) (ci := 4) (v := .int t_conditions) (C := RX4) (T := TX4) (N := 11) hx hb hts hh0 hown hK.1 hP 0 rfl rfl 0 (by decide) hh2 (fun _ h9 => h9) rfl dX4_rulesFor_13 ?_
      refine lv_icmp_ge (tgt := 43) hx hb dX4_rulesFor_16 (by decide) (fun c16 => ?_) (fun c16 => ?_)
      · replace h := ite_t c16 h
        refine lv_iload_n hx hb dX4_rulesFor_43 rfl (lv_at hl 1 rfl) ?_
        replace h := Option.some.inj h
        subst h
        replace h := wk_r k1
        subst h
        exact W.iret hx hb hr (fun t ht hW => ⟨_, rfl, rfl, ht⟩) (fun q hq => by cases hq) dX4_rulesFor_44
      · replace h := ite_f c16 h
        refine lv_iload_n hx hb dX4_rulesFor_19 rfl (lv_at hl 1 rfl) ?_
        refine lv_aload_n hx hb dX4_rulesFor_20 rfl (lv_at hl 2 rfl) ?_
        refine va_get (D := D) (ci := 4) (v := .ref (aT 7)) (C := RX4) (T := TX4) (N := 11) hx hb hts hh0 hown hK.1 hP 0 rfl rfl 10 (by decide) hh3 (fun _ h9 => h9) rfl dX4_rulesFor_21 ?_
        refine lv_iload_n hx hb dX4_rulesFor_24 rfl (lv_at hl 0 rfl) ?_
        refine lv_iconst (v := 5) hx hb dX4_rulesFor_25 (by decide) ?_
        refine lv_imul hx hb dX4_rulesFor_26 ?_
        refine lv_aload_n hx hb dX4_rulesFor_27 rfl (lv_at hl 2 rfl) ?_
        refine lv_iload_n hx hb dX4_rulesFor_28 rfl (lv_at hl 3 rfl) ?_
        refine lv_iload_n hx hb dX4_rulesFor_29 rfl (lv_at hl 0 rfl) ?_
        obtain ⟨z30, e_30, h⟩ := bd_s h
        refine cr_i (va_runV (As := [.int x1, .int v3_11]) (rest := [.int (v3_11 * (5 : Int32)), .ref (aT 7), .int v2_11]) ⟨hx, hb, hml, hown, hts⟩ (c_X4_digitOf l D g aT t_conditions t_cases t_rules t_defaultAction t_sizes t_strides t_costs t_weights t_sets t_actions t_rulesWith x1 v3_11 z30 e_30) (cwV 2 hts gX4_rulesFor_X4_digitOf rfl rfl rfl ⟨rfl, pd_X4_digitOf⟩ ⟨Nat.le_of_ble_eq_true rfl, Nat.le_of_ble_eq_true rfl⟩) (pr_v hK hP (q0 := 0) (ci := 4) rfl rfl rfl) rfl rfl hl.1 rfl (lv_room (Nat.le_of_ble_eq_true rfl)) dX4_rulesFor_30 ⟨Nat.zero_le _, Nat.zero_le _⟩) ?_
        refine lv_iadd hx hb dX4_rulesFor_33 ?_
        have iz34 := rd_in h
        refine va_iald hx hb hK.1 hP 7 0 rfl rfl (rd_in h) dX4_rulesFor_34 (lv_topi (fun z34 ez34 => ?_))
        replace h := rd_k h ez34
        refine lv_iand hx hb dX4_rulesFor_35 ?_
        refine lv_istore_n (lv' := [(2, .int (v2_11 &&& z34)), (3, .int v3_11), (0, .ref (aT 0)), (1, .int x1)]) hx hb dX4_rulesFor_36 rfl hl (by decide) rfl (fun ls hl => ?_)
        refine lv_iinc (v := (v3_11 + 1)) (lv' := [(3, .int (v3_11 + 1)), (2, .int (v2_11 &&& z34)), (0, .ref (aT 0)), (1, .int x1)]) hx hb dX4_rulesFor_37 hl (k := 1) rfl rfl (by decide) rfl (fun ls hl => ?_)
        refine lv_goto (tgt := 11) hx hb dX4_rulesFor_40 (by decide) ?_
        replace h := Option.some.inj h
        subst h
        exact ih1 (v2_11 &&& z34) (v3_11 + 1) (wk_l k1) ls (lv_sub hl [0, 1, 2, 3] rfl)
  exact lp11 5000 z8 (0 : Int32) h ls (lv_sub hl [0, 1, 2, 3] rfl)
theorem pd_X4_firstRuleFor : yX4_firstRuleFor.cls ≠ "java/lang/invoke/MethodHandle" ∧ yX4_firstRuleFor.cls ≠ "java/lang/invoke/VarHandle" ∧ (parseMethodDescriptor yX4_firstRuleFor.desc).map (fun d => d.parameters.length) = some 1 := by decide +kernel
def f_X4_firstRuleFor_s8 (t_rules : Int32) (z2 : Int32) (v3_8 : Int32) : Option ((Int32) ⊕ (Int32)) :=
  (if t_rules ≤ v3_8 then (some (.inr (-1 : Int32))) else (if ((z2 >>> (v3_8 &&& 31)) &&& (1 : Int32)) = (0 : Int32) then (some (.inl (v3_8 + 1))) else (some (.inr v3_8))))
def f_X4_firstRuleFor (t_conditions : Int32) (t_rules : Int32) (t_sizes : Nat → Int32) (t_strides : Nat → Int32) (t_rulesWith : Nat → Int32) (x1 : Int32) : Option (Int32) :=
  (Option.bind (f_X4_rulesFor t_conditions t_rules t_sizes t_strides t_rulesWith x1) fun z2 => (wl (fun q => f_X4_firstRuleFor_s8 t_rules z2 q) 5000 (0 : Int32)))
set_option maxHeartbeats 4000000 in
set_option maxRecDepth 100000 in
theorem c_X4_firstRuleFor (l : Launch) (D : va_G) (g : Nat → ClassId) (aT : Nat → Nat) (t_conditions : Int32) (t_cases : Int32) (t_rules : Int32) (t_defaultAction : Int32) (t_sizes : Nat → Int32) (t_strides : Nat → Int32) (t_costs : Nat → Int32) (t_weights : Nat → Int32) (t_sets : Nat → Int32) (t_actions : Nat → Int32) (t_rulesWith : Nat → Int32) (x1 : Int32) (r : Int32) (hf : f_X4_firstRuleFor t_conditions t_rules t_sizes t_strides t_rulesWith x1 = some r) : CR l yX4_firstRuleFor wsX4_firstRuleFor 3 66 D g [.ref (aT 0), .int x1] (wX4 g aT t_conditions t_cases t_rules t_defaultAction t_sizes t_strides t_costs t_weights t_sets t_actions t_rulesWith) (QRi r) := by
  refine Met.ofW (cc := cX4_firstRuleFor) (maxL := 4) (ret := (some .int)) (by decide) rfl ?_
  intro p e s m args below meth c s₁ B hml hv
  obtain ⟨rfl, hP, hK⟩ := hv
  have hx := B.exec
  have hb := B.bytes
  have hr := B.returns
  have hts := atoms_spec (ws := wsX4_firstRuleFor) B.pre
  have hown : s.vm.findClass RX4 = some m.cls := findClass_of_methodNamed B.named
  have hlocks := B.notSynchronized
  have hh0 := (show ∀ w ∈ wsX40, w ∈ wsX4_firstRuleFor from by decide +kernel)
  have hh1 := hts (.fieldLink RX4 40 "DecisionTableCompiler$Table" "rules" "I") (by decide +kernel)
  have hl := lv_entry ([.ref (aT 0), .int x1]) (n := 4) (Nat.le_of_ble_eq_true rfl)
  rw [lg_entry_eq]
  generalize (lg_sl ([.ref (aT 0), .int x1]) ++ List.replicate (4 - (lg_sl ([.ref (aT 0), .int x1])).length) Slot.unset).toArray = ls at hl ⊢
  replace hl : lv_has ls 4 [(0, .ref (aT 0)), (1, .int x1)] := hl
  have h := hf
  unfold f_X4_firstRuleFor at h
  refine lv_aload_n hx hb dX4_firstRuleFor_0 rfl (lv_at hl 0 rfl) ?_
  refine lv_iload_n hx hb dX4_firstRuleFor_1 rfl (lv_at hl 1 rfl) ?_
  obtain ⟨z2, e_2, h⟩ := bd_s h
  refine cr_i (va_runV (As := [.int x1]) (rest := []) ⟨hx, hb, hml, hown, hts⟩ (c_X4_rulesFor l D g aT t_conditions t_cases t_rules t_defaultAction t_sizes t_strides t_costs t_weights t_sets t_actions t_rulesWith x1 z2 e_2) (cwV 1 hts gX4_firstRuleFor_X4_rulesFor rfl rfl rfl ⟨rfl, pd_X4_rulesFor⟩ ⟨Nat.le_of_ble_eq_true rfl, Nat.le_of_ble_eq_true rfl⟩) (pr_v hK hP (q0 := 0) (ci := 4) rfl rfl rfl) rfl rfl hl.1 rfl (lv_room (Nat.le_of_ble_eq_true rfl)) dX4_firstRuleFor_2 ⟨Nat.zero_le _, Nat.zero_le _⟩) ?_
  refine lv_istore_n (lv' := [(2, .int z2), (0, .ref (aT 0)), (1, .int x1)]) hx hb dX4_firstRuleFor_5 rfl hl (by decide) rfl (fun ls hl => ?_)
  refine lv_iconst (v := 0) hx hb dX4_firstRuleFor_6 (by decide) ?_
  refine lv_istore_n (lv' := [(3, .int (0 : Int32)), (2, .int z2), (0, .ref (aT 0)), (1, .int x1)]) hx hb dX4_firstRuleFor_7 rfl hl (by decide) rfl (fun ls hl => ?_)
  have lp8 : ∀ (n : Nat) (v3_8 : Int32), wl (fun q => f_X4_firstRuleFor_s8 t_rules z2 q) n v3_8 = some r → ∀ ls : Array Slot, lv_has ls 4 [(3, .int v3_8), (2, .int z2), (0, .ref (aT 0))] → W p l e (headSpec wsX4_firstRuleFor ({ frames := 3, cells := 0, slots := 0, locals := 66 })).room s m ([.ref (aT 0), .int x1] : List Value).toArray below meth c s.heap [] 0 0 (MQ below (QRi r) ([.ref (aT 0), .int x1] : List Value).toArray s 0 0 (fun _ => False)) (F0 m 8 ls []) := by
    intro n
    induction n with
    | zero =>
      intro v3_8 h
      exact wl_0 h
    | succ n ih1 =>
      intro v3_8 h ls hl
      obtain ⟨o1, h, k1⟩ := wl_s h
      replace h : f_X4_firstRuleFor_s8 t_rules z2 v3_8 = some o1 := h
      unfold f_X4_firstRuleFor_s8 at h
      refine lv_iload_n hx hb dX4_firstRuleFor_8 rfl (lv_at hl 0 rfl) ?_
      refine lv_aload_n hx hb dX4_firstRuleFor_9 rfl (lv_at hl 2 rfl) ?_
      refine va_get (D := D) (ci := 4) (v := .int t_rules) (C := RX4) (T := TX4) (N := 11) hx hb hts hh0 hown hK.1 hP 0 rfl rfl 2 (by decide) hh1 (fun _ h9 => h9) rfl dX4_firstRuleFor_10 ?_
      refine lv_icmp_ge (tgt := 32) hx hb dX4_firstRuleFor_13 (by decide) (fun c13 => ?_) (fun c13 => ?_)
      · replace h := ite_t c13 h
        refine lv_iconst (v := -1) hx hb dX4_firstRuleFor_32 (by decide) ?_
        replace h := Option.some.inj h
        subst h
        replace h := wk_r k1
        subst h
        exact W.iret hx hb hr (fun t ht hW => ⟨_, rfl, rfl, ht⟩) (fun q hq => by cases hq) dX4_firstRuleFor_33
      · replace h := ite_f c13 h
        refine lv_iload_n hx hb dX4_firstRuleFor_16 rfl (lv_at hl 1 rfl) ?_
        refine lv_iload_n hx hb dX4_firstRuleFor_17 rfl (lv_at hl 0 rfl) ?_
        refine lv_ishr hx hb dX4_firstRuleFor_18 ?_
        refine lv_iconst (v := 1) hx hb dX4_firstRuleFor_19 (by decide) ?_
        refine lv_iand hx hb dX4_firstRuleFor_20 ?_
        refine lv_if_eq (tgt := 26) hx hb dX4_firstRuleFor_21 (by decide) (fun c21 => ?_) (fun c21 => ?_)
        · replace h := ite_t c21 h
          refine lv_iinc (v := (v3_8 + 1)) (lv' := [(3, .int (v3_8 + 1)), (2, .int z2), (0, .ref (aT 0))]) hx hb dX4_firstRuleFor_26 hl (k := 0) rfl rfl (by decide) rfl (fun ls hl => ?_)
          refine lv_goto (tgt := 8) hx hb dX4_firstRuleFor_29 (by decide) ?_
          replace h := Option.some.inj h
          subst h
          exact ih1 (v3_8 + 1) (wk_l k1) ls (lv_sub hl [0, 1, 2] rfl)
        · replace h := ite_f c21 h
          refine lv_iload_n hx hb dX4_firstRuleFor_24 rfl (lv_at hl 0 rfl) ?_
          replace h := Option.some.inj h
          subst h
          replace h := wk_r k1
          subst h
          exact W.iret hx hb hr (fun t ht hW => ⟨_, rfl, rfl, ht⟩) (fun q hq => by cases hq) dX4_firstRuleFor_25
  exact lp8 5000 (0 : Int32) h ls (lv_sub hl [0, 1, 2] rfl)
theorem pd_X4_actionFor : yX4_actionFor.cls ≠ "java/lang/invoke/MethodHandle" ∧ yX4_actionFor.cls ≠ "java/lang/invoke/VarHandle" ∧ (parseMethodDescriptor yX4_actionFor.desc).map (fun d => d.parameters.length) = some 1 := by decide +kernel
def f_X4_actionFor (t_conditions : Int32) (t_rules : Int32) (t_defaultAction : Int32) (t_sizes : Nat → Int32) (t_strides : Nat → Int32) (t_actions : Nat → Int32) (t_rulesWith : Nat → Int32) (x1 : Int32) : Option (Int32) :=
  (Option.bind (f_X4_firstRuleFor t_conditions t_rules t_sizes t_strides t_rulesWith x1) fun z2 => (if (0 : Int32) ≤ z2 then (rd 12 t_actions z2 fun z22 => (some z22)) else (some t_defaultAction)))
set_option maxHeartbeats 4000000 in
set_option maxRecDepth 100000 in
theorem c_X4_actionFor (l : Launch) (D : va_G) (g : Nat → ClassId) (aT : Nat → Nat) (t_conditions : Int32) (t_cases : Int32) (t_rules : Int32) (t_defaultAction : Int32) (t_sizes : Nat → Int32) (t_strides : Nat → Int32) (t_costs : Nat → Int32) (t_weights : Nat → Int32) (t_sets : Nat → Int32) (t_actions : Nat → Int32) (t_rulesWith : Nat → Int32) (x1 : Int32) (r : Int32) (hf : f_X4_actionFor t_conditions t_rules t_defaultAction t_sizes t_strides t_actions t_rulesWith x1 = some r) : CR l yX4_actionFor wsX4_actionFor 4 89 D g [.ref (aT 0), .int x1] (wX4 g aT t_conditions t_cases t_rules t_defaultAction t_sizes t_strides t_costs t_weights t_sets t_actions t_rulesWith) (QRi r) := by
  refine Met.ofW (cc := cX4_actionFor) (maxL := 3) (ret := (some .int)) (by decide) rfl ?_
  intro p e s m args below meth c s₁ B hml hv
  obtain ⟨rfl, hP, hK⟩ := hv
  have hx := B.exec
  have hb := B.bytes
  have hr := B.returns
  have hts := atoms_spec (ws := wsX4_actionFor) B.pre
  have hown : s.vm.findClass RX4 = some m.cls := findClass_of_methodNamed B.named
  have hlocks := B.notSynchronized
  have hh0 := (show ∀ w ∈ wsX40, w ∈ wsX4_actionFor from by decide +kernel)
  have hh1 := hts (.fieldLink RX4 27 "DecisionTableCompiler$Table" "actions" "[I") (by decide +kernel)
  have hh2 := hts (.fieldLink RX4 43 "DecisionTableCompiler$Table" "defaultAction" "I") (by decide +kernel)
  have hl := lv_entry ([.ref (aT 0), .int x1]) (n := 3) (Nat.le_of_ble_eq_true rfl)
  rw [lg_entry_eq]
  generalize (lg_sl ([.ref (aT 0), .int x1]) ++ List.replicate (3 - (lg_sl ([.ref (aT 0), .int x1])).length) Slot.unset).toArray = ls at hl ⊢
  replace hl : lv_has ls 3 [(0, .ref (aT 0)), (1, .int x1)] := hl
  have h := hf
  unfold f_X4_actionFor at h
  refine lv_aload_n hx hb dX4_actionFor_0 rfl (lv_at hl 0 rfl) ?_
  refine lv_iload_n hx hb dX4_actionFor_1 rfl (lv_at hl 1 rfl) ?_
  obtain ⟨z2, e_2, h⟩ := bd_s h
  refine cr_i (va_runV (As := [.int x1]) (rest := []) ⟨hx, hb, hml, hown, hts⟩ (c_X4_firstRuleFor l D g aT t_conditions t_cases t_rules t_defaultAction t_sizes t_strides t_costs t_weights t_sets t_actions t_rulesWith x1 z2 e_2) (cwV 1 hts gX4_actionFor_X4_firstRuleFor rfl rfl rfl ⟨rfl, pd_X4_firstRuleFor⟩ ⟨Nat.le_of_ble_eq_true rfl, Nat.le_of_ble_eq_true rfl⟩) (pr_v hK hP (q0 := 0) (ci := 4) rfl rfl rfl) rfl rfl hl.1 rfl (lv_room (Nat.le_of_ble_eq_true rfl)) dX4_actionFor_2 ⟨Nat.zero_le _, Nat.zero_le _⟩) ?_
  refine lv_istore_n (lv' := [(2, .int z2), (0, .ref (aT 0)), (1, .int x1)]) hx hb dX4_actionFor_5 rfl hl (by decide) rfl (fun ls hl => ?_)
  refine lv_iload_n hx hb dX4_actionFor_6 rfl (lv_at hl 0 rfl) ?_
  refine lv_if_ge (tgt := 17) hx hb dX4_actionFor_7 (by decide) (fun c7 => ?_) (fun c7 => ?_)
  · replace h := ite_t c7 h
    refine lv_aload_n hx hb dX4_actionFor_17 rfl (lv_at hl 1 rfl) ?_
    refine va_get (D := D) (ci := 4) (v := .ref (aT 6)) (C := RX4) (T := TX4) (N := 11) hx hb hts hh0 hown hK.1 hP 0 rfl rfl 9 (by decide) hh1 (fun _ h9 => h9) rfl dX4_actionFor_18 ?_
    refine lv_iload_n hx hb dX4_actionFor_21 rfl (lv_at hl 0 rfl) ?_
    have iz22 := rd_in h
    refine va_iald hx hb hK.1 hP 6 0 rfl rfl (rd_in h) dX4_actionFor_22 (lv_topi (fun z22 ez22 => ?_))
    replace h := rd_k h ez22
    replace h := Option.some.inj h
    subst h
    exact W.iret hx hb hr (fun t ht hW => ⟨_, rfl, rfl, ht⟩) (fun q hq => by cases hq) dX4_actionFor_23
  · replace h := ite_f c7 h
    refine lv_aload_n hx hb dX4_actionFor_10 rfl (lv_at hl 1 rfl) ?_
    refine va_get (D := D) (ci := 4) (v := .int t_defaultAction) (C := RX4) (T := TX4) (N := 11) hx hb hts hh0 hown hK.1 hP 0 rfl rfl 3 (by decide) hh2 (fun _ h9 => h9) rfl dX4_actionFor_11 ?_
    refine lv_goto (tgt := 23) hx hb dX4_actionFor_14 (by decide) ?_
    replace h := Option.some.inj h
    subst h
    exact W.iret hx hb hr (fun t ht hW => ⟨_, rfl, rfl, ht⟩) (fun q hq => by cases hq) dX4_actionFor_23
theorem pd_X4_hasCondition : yX4_hasCondition.cls ≠ "java/lang/invoke/MethodHandle" ∧ yX4_hasCondition.cls ≠ "java/lang/invoke/VarHandle" ∧ (parseMethodDescriptor yX4_hasCondition.desc).map (fun d => d.parameters.length) = some 1 := by decide +kernel
def f_X4_hasCondition (t_conditions : Int32) (x1 : Int32) : Option (Bool) :=
  (if x1 < (0 : Int32) then (some false) else (if t_conditions ≤ x1 then (some false) else (some true)))
set_option maxHeartbeats 4000000 in
set_option maxRecDepth 100000 in
theorem c_X4_hasCondition (l : Launch) (D : va_G) (g : Nat → ClassId) (aT : Nat → Nat) (t_conditions : Int32) (t_cases : Int32) (t_rules : Int32) (t_defaultAction : Int32) (t_sizes : Nat → Int32) (t_strides : Nat → Int32) (t_costs : Nat → Int32) (t_weights : Nat → Int32) (t_sets : Nat → Int32) (t_actions : Nat → Int32) (t_rulesWith : Nat → Int32) (x1 : Int32) (r : Bool) (hf : f_X4_hasCondition t_conditions x1 = some r) : CR l yX4_hasCondition wsX4_hasCondition 0 0 D g [.ref (aT 0), .int x1] (wX4 g aT t_conditions t_cases t_rules t_defaultAction t_sizes t_strides t_costs t_weights t_sets t_actions t_rulesWith) (QRi (bI r)) := by
  refine Met.ofW (cc := cX4_hasCondition) (maxL := 2) (ret := (some .boolean)) (by decide) rfl ?_
  intro p e s m args below meth c s₁ B hml hv
  obtain ⟨rfl, hP, hK⟩ := hv
  have hx := B.exec
  have hb := B.bytes
  have hr := B.returns
  have hts := atoms_spec (ws := wsX4_hasCondition) B.pre
  have hown : s.vm.findClass RX4 = some m.cls := findClass_of_methodNamed B.named
  have hlocks := B.notSynchronized
  have hh0 := (show ∀ w ∈ wsX40, w ∈ wsX4_hasCondition from by decide +kernel)
  have hh1 := hts (.fieldLink RX4 33 "DecisionTableCompiler$Table" "conditions" "I") (by decide +kernel)
  have hl := lv_entry ([.ref (aT 0), .int x1]) (n := 2) (Nat.le_of_ble_eq_true rfl)
  rw [lg_entry_eq]
  generalize (lg_sl ([.ref (aT 0), .int x1]) ++ List.replicate (2 - (lg_sl ([.ref (aT 0), .int x1])).length) Slot.unset).toArray = ls at hl ⊢
  replace hl : lv_has ls 2 [(0, .ref (aT 0)), (1, .int x1)] := hl
  have h := hf
  unfold f_X4_hasCondition at h
  refine lv_iload_n hx hb dX4_hasCondition_0 rfl (lv_at hl 1 rfl) ?_
  refine lv_if_lt (tgt := 16) hx hb dX4_hasCondition_1 (by decide) (fun c1 => ?_) (fun c1 => ?_)
  · replace h := ite_t c1 h
    refine lv_iconst (v := 0) hx hb dX4_hasCondition_16 (by decide) ?_
    replace h := Option.some.inj h
    subst h
    exact W.zret hx hb hr rfl (fun t ht hW => ⟨_, rfl, rfl, ht⟩) (fun q hq => by cases hq) dX4_hasCondition_17
  · replace h := ite_f c1 h
    refine lv_iload_n hx hb dX4_hasCondition_4 rfl (lv_at hl 1 rfl) ?_
    refine lv_aload_n hx hb dX4_hasCondition_5 rfl (lv_at hl 0 rfl) ?_
    refine va_get (D := D) (ci := 4) (v := .int t_conditions) (C := RX4) (T := TX4) (N := 11) hx hb hts hh0 hown hK.1 hP 0 rfl rfl 0 (by decide) hh1 (fun _ h9 => h9) rfl dX4_hasCondition_6 ?_
    refine lv_icmp_ge (tgt := 16) hx hb dX4_hasCondition_9 (by decide) (fun c9 => ?_) (fun c9 => ?_)
    · replace h := ite_t c9 h
      refine lv_iconst (v := 0) hx hb dX4_hasCondition_16 (by decide) ?_
      replace h := Option.some.inj h
      subst h
      exact W.zret hx hb hr rfl (fun t ht hW => ⟨_, rfl, rfl, ht⟩) (fun q hq => by cases hq) dX4_hasCondition_17
    · replace h := ite_f c9 h
      refine lv_iconst (v := 1) hx hb dX4_hasCondition_12 (by decide) ?_
      refine lv_goto (tgt := 17) hx hb dX4_hasCondition_13 (by decide) ?_
      replace h := Option.some.inj h
      subst h
      exact W.zret hx hb hr rfl (fun t ht hW => ⟨_, rfl, rfl, ht⟩) (fun q hq => by cases hq) dX4_hasCondition_17
theorem pd_X4_hasValue : yX4_hasValue.cls ≠ "java/lang/invoke/MethodHandle" ∧ yX4_hasValue.cls ≠ "java/lang/invoke/VarHandle" ∧ (parseMethodDescriptor yX4_hasValue.desc).map (fun d => d.parameters.length) = some 2 := by decide +kernel
def f_X4_hasValue (t_conditions : Int32) (t_sizes : Nat → Int32) (x1 : Int32) (x2 : Int32) : Option (Bool) :=
  (Option.bind (f_X4_hasCondition t_conditions x1) fun z2 => (if z2 = true then (if x2 < (0 : Int32) then (some false) else (rd 4 t_sizes x1 fun z18 => (if z18 ≤ x2 then (some false) else (some true)))) else (some false)))
set_option maxHeartbeats 4000000 in
set_option maxRecDepth 100000 in
theorem c_X4_hasValue (l : Launch) (D : va_G) (g : Nat → ClassId) (aT : Nat → Nat) (t_conditions : Int32) (t_cases : Int32) (t_rules : Int32) (t_defaultAction : Int32) (t_sizes : Nat → Int32) (t_strides : Nat → Int32) (t_costs : Nat → Int32) (t_weights : Nat → Int32) (t_sets : Nat → Int32) (t_actions : Nat → Int32) (t_rulesWith : Nat → Int32) (x1 : Int32) (x2 : Int32) (r : Bool) (hf : f_X4_hasValue t_conditions t_sizes x1 x2 = some r) : CR l yX4_hasValue wsX4_hasValue 1 21 D g [.ref (aT 0), .int x1, .int x2] (wX4 g aT t_conditions t_cases t_rules t_defaultAction t_sizes t_strides t_costs t_weights t_sets t_actions t_rulesWith) (QRi (bI r)) := by
  refine Met.ofW (cc := cX4_hasValue) (maxL := 3) (ret := (some .boolean)) (by decide) rfl ?_
  intro p e s m args below meth c s₁ B hml hv
  obtain ⟨rfl, hP, hK⟩ := hv
  have hx := B.exec
  have hb := B.bytes
  have hr := B.returns
  have hts := atoms_spec (ws := wsX4_hasValue) B.pre
  have hown : s.vm.findClass RX4 = some m.cls := findClass_of_methodNamed B.named
  have hlocks := B.notSynchronized
  have hh0 := (show ∀ w ∈ wsX40, w ∈ wsX4_hasValue from by decide +kernel)
  have hh1 := hts (.fieldLink RX4 9 "DecisionTableCompiler$Table" "sizes" "[I") (by decide +kernel)
  have hl := lv_entry ([.ref (aT 0), .int x1, .int x2]) (n := 3) (Nat.le_of_ble_eq_true rfl)
  rw [lg_entry_eq]
  generalize (lg_sl ([.ref (aT 0), .int x1, .int x2]) ++ List.replicate (3 - (lg_sl ([.ref (aT 0), .int x1, .int x2])).length) Slot.unset).toArray = ls at hl ⊢
  replace hl : lv_has ls 3 [(0, .ref (aT 0)), (1, .int x1), (2, .int x2)] := hl
  have h := hf
  unfold f_X4_hasValue at h
  refine lv_aload_n hx hb dX4_hasValue_0 rfl (lv_at hl 0 rfl) ?_
  refine lv_iload_n hx hb dX4_hasValue_1 rfl (lv_at hl 1 rfl) ?_
  obtain ⟨z2, e_2, h⟩ := bd_s h
  refine cr_i (va_runV (As := [.int x1]) (rest := []) ⟨hx, hb, hml, hown, hts⟩ (c_X4_hasCondition l D g aT t_conditions t_cases t_rules t_defaultAction t_sizes t_strides t_costs t_weights t_sets t_actions t_rulesWith x1 z2 e_2) (cwV 1 hts gX4_hasValue_X4_hasCondition rfl rfl rfl ⟨rfl, pd_X4_hasCondition⟩ ⟨Nat.le_of_ble_eq_true rfl, Nat.le_of_ble_eq_true rfl⟩) (pr_v hK hP (q0 := 0) (ci := 4) rfl rfl rfl) rfl rfl hl.1 rfl (lv_room (Nat.le_of_ble_eq_true rfl)) dX4_hasValue_2 ⟨Nat.zero_le _, Nat.zero_le _⟩) ?_
  refine lb_eq (tgt := 26) hx hb dX4_hasValue_5 (by decide) (fun c5 => ?_) (fun c5 => ?_)
  · replace h := ite_t c5 h
    refine lv_iload_n hx hb dX4_hasValue_8 rfl (lv_at hl 2 rfl) ?_
    refine lv_if_lt (tgt := 26) hx hb dX4_hasValue_9 (by decide) (fun c9 => ?_) (fun c9 => ?_)
    · replace h := ite_t c9 h
      refine lv_iconst (v := 0) hx hb dX4_hasValue_26 (by decide) ?_
      replace h := Option.some.inj h
      subst h
      exact W.zret hx hb hr rfl (fun t ht hW => ⟨_, rfl, rfl, ht⟩) (fun q hq => by cases hq) dX4_hasValue_27
    · replace h := ite_f c9 h
      refine lv_iload_n hx hb dX4_hasValue_12 rfl (lv_at hl 2 rfl) ?_
      refine lv_aload_n hx hb dX4_hasValue_13 rfl (lv_at hl 0 rfl) ?_
      refine va_get (D := D) (ci := 4) (v := .ref (aT 1)) (C := RX4) (T := TX4) (N := 11) hx hb hts hh0 hown hK.1 hP 0 rfl rfl 4 (by decide) hh1 (fun _ h9 => h9) rfl dX4_hasValue_14 ?_
      refine lv_iload_n hx hb dX4_hasValue_17 rfl (lv_at hl 1 rfl) ?_
      have iz18 := rd_in h
      refine va_iald hx hb hK.1 hP 1 0 rfl rfl (rd_in h) dX4_hasValue_18 (lv_topi (fun z18 ez18 => ?_))
      replace h := rd_k h ez18
      refine lv_icmp_ge (tgt := 26) hx hb dX4_hasValue_19 (by decide) (fun c19 => ?_) (fun c19 => ?_)
      · replace h := ite_t c19 h
        refine lv_iconst (v := 0) hx hb dX4_hasValue_26 (by decide) ?_
        replace h := Option.some.inj h
        subst h
        exact W.zret hx hb hr rfl (fun t ht hW => ⟨_, rfl, rfl, ht⟩) (fun q hq => by cases hq) dX4_hasValue_27
      · replace h := ite_f c19 h
        refine lv_iconst (v := 1) hx hb dX4_hasValue_22 (by decide) ?_
        refine lv_goto (tgt := 27) hx hb dX4_hasValue_23 (by decide) ?_
        replace h := Option.some.inj h
        subst h
        exact W.zret hx hb hr rfl (fun t ht hW => ⟨_, rfl, rfl, ht⟩) (fun q hq => by cases hq) dX4_hasValue_27
  · replace h := ite_f c5 h
    refine lv_iconst (v := 0) hx hb dX4_hasValue_26 (by decide) ?_
    replace h := Option.some.inj h
    subst h
    exact W.zret hx hb hr rfl (fun t ht hW => ⟨_, rfl, rfl, ht⟩) (fun q hq => by cases hq) dX4_hasValue_27
theorem pd_X4_clearTo : yX4_clearTo.cls ≠ "java/lang/invoke/MethodHandle" ∧ yX4_clearTo.cls ≠ "java/lang/invoke/VarHandle" ∧ (parseMethodDescriptor yX4_clearTo.desc).map (fun d => d.parameters.length) = some 4 := by decide +kernel
def f_X4_clearTo_s42 (t_sizes : Nat → Int32) (t_costs : Nat → Int32) (t_weights : Nat → Int32) (t_rulesWith : Nat → Int32) (x1 : Int32) (x2 : Int32) (x3 : Int32) (x4 : Int32) (v5_42 : Int32) (t_conditions_42 : Int32) (t_cases_42 : Int32) (t_strides_42 : Nat → Int32) : Option ((Int32 × Int32 × Int32 × (Nat → Int32)) ⊕ (Int32 × Int32 × Int32 × Int32 × (Nat → Int32) × (Nat → Int32) × (Nat → Int32) × (Nat → Int32) × (Nat → Int32))) :=
  (if v5_42 < (0 : Int32) then (some (.inr (t_conditions_42, t_cases_42, (0 : Int32), (-1 : Int32), (upd (upd (upd (upd t_sizes (0 : Int32).toNatClampNeg x1) (1 : Int32).toNatClampNeg x2) (2 : Int32).toNatClampNeg x3) (3 : Int32).toNatClampNeg x4), t_strides_42, (fil 4 (1 : Int32) t_costs), (fil 20 (1 : Int32) t_weights), (fil 20 (0 : Int32) t_rulesWith)))) else (ix 4 v5_42 (nm ((upd (upd (upd (upd t_sizes (0 : Int32).toNatClampNeg x1) (1 : Int32).toNatClampNeg x2) (2 : Int32).toNatClampNeg x3) (3 : Int32).toNatClampNeg x4) v5_42.toNatClampNeg) fun z64 => (if z64 ≤ (0 : Int32) then (some (.inl ((v5_42 + (-1)), t_conditions_42, t_cases_42, (upd t_strides_42 v5_42.toNatClampNeg t_cases_42)))) else (some (.inl ((v5_42 + (-1)), (t_conditions_42 + (1 : Int32)), (t_cases_42 * z64), (upd t_strides_42 v5_42.toNatClampNeg t_cases_42))))))))
def f_X4_clearTo (t_conditions : Int32) (t_cases : Int32) (t_rules : Int32) (t_defaultAction : Int32) (t_sizes : Nat → Int32) (t_strides : Nat → Int32) (t_costs : Nat → Int32) (t_weights : Nat → Int32) (t_rulesWith : Nat → Int32) (x1 : Int32) (x2 : Int32) (x3 : Int32) (x4 : Int32) : Option (Int32 × Int32 × Int32 × Int32 × (Nat → Int32) × (Nat → Int32) × (Nat → Int32) × (Nat → Int32) × (Nat → Int32)) :=
  (ix 4 (0 : Int32) (ix 4 (1 : Int32) (ix 4 (2 : Int32) (ix 4 (3 : Int32) (wl (fun q => f_X4_clearTo_s42 t_sizes t_costs t_weights t_rulesWith x1 x2 x3 x4 q.1 q.2.1 q.2.2.1 q.2.2.2) 5000 ((3 : Int32), (0 : Int32), (1 : Int32), t_strides))))))
set_option maxHeartbeats 4000000 in
set_option maxRecDepth 100000 in
theorem c_X4_clearTo (l : Launch) (sz : Nat) (D : va_G) (g : Nat → ClassId) (aT : Nat → Nat) (t_conditions : Int32) (t_cases : Int32) (t_rules : Int32) (t_defaultAction : Int32) (t_sizes : Nat → Int32) (t_strides : Nat → Int32) (t_costs : Nat → Int32) (t_weights : Nat → Int32) (t_sets : Nat → Int32) (t_actions : Nat → Int32) (t_rulesWith : Nat → Int32) (x1 : Int32) (x2 : Int32) (x3 : Int32) (x4 : Int32) (t_conditions_n : Int32) (t_cases_n : Int32) (t_rules_n : Int32) (t_defaultAction_n : Int32) (t_sizes_n : Nat → Int32) (t_strides_n : Nat → Int32) (t_costs_n : Nat → Int32) (t_weights_n : Nat → Int32) (t_rulesWith_n : Nat → Int32) (hf : f_X4_clearTo t_conditions t_cases t_rules t_defaultAction t_sizes t_strides t_costs t_weights t_rulesWith x1 x2 x3 x4 = some (t_conditions_n, t_cases_n, t_rules_n, t_defaultAction_n, t_sizes_n, t_strides_n, t_costs_n, t_weights_n, t_rulesWith_n)) : CM l yX4_clearTo wsX4_clearTo 1 23 sz D g [.ref (aT 0), .int x1, .int x2, .int x3, .int x4] (wX4 g aT t_conditions t_cases t_rules t_defaultAction t_sizes t_strides t_costs t_weights t_sets t_actions t_rulesWith) (QMv D (wX4 g aT t_conditions t_cases t_rules t_defaultAction t_sizes t_strides t_costs t_weights t_sets t_actions t_rulesWith) sz (wX4 g aT t_conditions_n t_cases_n t_rules_n t_defaultAction_n t_sizes_n t_strides_n t_costs_n t_weights_n t_sets t_actions t_rulesWith_n)) := by
  refine Met.ofW (cc := cX4_clearTo) (maxL := 6) (ret := none) (by decide) rfl ?_
  intro p e s m args below meth c s₁ B hml hv
  obtain ⟨rfl, hsz, hP, hK, hD0⟩ := hv
  have hx := B.exec
  have hb := B.bytes
  have hr := B.returns
  have hts := atoms_spec (ws := wsX4_clearTo) B.pre
  have hown : s.vm.findClass RX4 = some m.cls := findClass_of_methodNamed B.named
  have hlocks := B.notSynchronized
  have hh0 := (show ∀ w ∈ wsX40, w ∈ wsX4_clearTo from by decide +kernel)
  have hh1 := hts (.fieldLink RX4 9 "DecisionTableCompiler$Table" "sizes" "[I") (by decide +kernel)
  have hh2 := hts (.fieldLink RX4 33 "DecisionTableCompiler$Table" "conditions" "I") (by decide +kernel)
  have hh3 := hts (.fieldLink RX4 37 "DecisionTableCompiler$Table" "cases" "I") (by decide +kernel)
  have hh4 := hts (.fieldLink RX4 40 "DecisionTableCompiler$Table" "rules" "I") (by decide +kernel)
  have hh5 := hts (.fieldLink RX4 43 "DecisionTableCompiler$Table" "defaultAction" "I") (by decide +kernel)
  have hh6 := hts (.fieldLink RX4 18 "DecisionTableCompiler$Table" "costs" "[I") (by decide +kernel)
  have hh7 := hts (.fieldLink RX4 21 "DecisionTableCompiler$Table" "weights" "[I") (by decide +kernel)
  have hh8 := hts (.fieldLink RX4 30 "DecisionTableCompiler$Table" "rulesWith" "[I") (by decide +kernel)
  have hh9 := hts (.fieldLink RX4 15 "DecisionTableCompiler$Table" "strides" "[I") (by decide +kernel)
  subst hsz
  have hD := hD0.self (sz := s.heap.size)
  have hA : ∀ q : Nat, s.heap.size ≤ q → va_A (wX4 g aT t_conditions t_cases t_rules t_defaultAction t_sizes t_strides t_costs t_weights t_sets t_actions t_rulesWith) s.heap.size q := fun q h => Or.inr h
  have hS : va_S (va_A (wX4 g aT t_conditions t_cases t_rules t_defaultAction t_sizes t_strides t_costs t_weights t_sets t_actions t_rulesWith) s.heap.size) s.heap s.heap [] := va_S.rf
  have hl := lv_entry ([.ref (aT 0), .int x1, .int x2, .int x3, .int x4]) (n := 6) (Nat.le_of_ble_eq_true rfl)
  rw [lg_entry_eq]
  generalize (lg_sl ([.ref (aT 0), .int x1, .int x2, .int x3, .int x4]) ++ List.replicate (6 - (lg_sl ([.ref (aT 0), .int x1, .int x2, .int x3, .int x4])).length) Slot.unset).toArray = ls at hl ⊢
  replace hl : lv_has ls 6 [(0, .ref (aT 0)), (1, .int x1), (2, .int x2), (3, .int x3), (4, .int x4)] := hl
  have h := hf
  unfold f_X4_clearTo at h
  obtain ⟨H, hH⟩ : ∃ H, H = s.heap := ⟨_, rfl⟩
  obtain ⟨locs, hlc⟩ : ∃ q : List Loc, q = [] := ⟨_, rfl⟩
  have hS : va_S (va_A (wX4 g aT t_conditions t_cases t_rules t_defaultAction t_sizes t_strides t_costs t_weights t_sets t_actions t_rulesWith) s.heap.size) s.heap H locs := by rw [hH, hlc]; exact hS
  replace hP : va_P D vwCl (wX4 g aT t_conditions t_cases t_rules t_defaultAction t_sizes t_strides t_costs t_weights t_sets t_actions t_rulesWith) H := by rw [hH]; exact hP
  suffices hW : W p l e (headSpec wsX4_clearTo ({ frames := 1, cells := 0, slots := 0, locals := 23 })).room s m ([.ref (aT 0), .int x1, .int x2, .int x3, .int x4] : List Value).toArray below meth c H locs 0 0 (MQ below (QMv D (wX4 g aT t_conditions t_cases t_rules t_defaultAction t_sizes t_strides t_costs t_weights t_sets t_actions t_rulesWith) s.heap.size (wX4 g aT t_conditions_n t_cases_n t_rules_n t_defaultAction_n t_sizes_n t_strides_n t_costs_n t_weights_n t_sets t_actions t_rulesWith_n)) ([.ref (aT 0), .int x1, .int x2, .int x3, .int x4] : List Value).toArray s 0 0 (va_A (wX4 g aT t_conditions t_cases t_rules t_defaultAction t_sizes t_strides t_costs t_weights t_sets t_actions t_rulesWith) s.heap.size)) (F0 m 0 ls []) by rw [hH, hlc] at hW; exact hW
  clear hH hlc
  refine lv_aload_n hx hb dX4_clearTo_0 rfl (lv_at hl 0 rfl) ?_
  refine va_get (D := D) (ci := 4) (v := .ref (aT 1)) (C := RX4) (T := TX4) (N := 11) hx hb hts hh0 hown hK.1 hP 0 rfl rfl 4 (by decide) hh1 (fun _ h9 => h9) rfl dX4_clearTo_1 ?_
  refine lv_iconst (v := 0) hx hb dX4_clearTo_4 (by decide) ?_
  refine lv_iload_n hx hb dX4_clearTo_5 rfl (lv_at hl 1 rfl) ?_
  have ib6 := ix_in h
  replace h := ix_k h
  refine va_iast hx hb hK.1 hP hD hS 1 0 rfl rfl ib6 dX4_clearTo_6 (fun H locs hP hD hS => ?_)
  replace hP : va_P D vwCl (wX4 g aT t_conditions t_cases t_rules t_defaultAction (upd t_sizes (0 : Int32).toNatClampNeg x1) t_strides t_costs t_weights t_sets t_actions t_rulesWith) H := hP
  replace hD : va_D (va_A (wX4 g aT t_conditions t_cases t_rules t_defaultAction t_sizes t_strides t_costs t_weights t_sets t_actions t_rulesWith) s.heap.size) (wX4 g aT t_conditions t_cases t_rules t_defaultAction (upd t_sizes (0 : Int32).toNatClampNeg x1) t_strides t_costs t_weights t_sets t_actions t_rulesWith) := hD
  refine lv_aload_n hx hb dX4_clearTo_7 rfl (lv_at hl 0 rfl) ?_
  refine va_get (D := D) (ci := 4) (v := .ref (aT 1)) (C := RX4) (T := TX4) (N := 11) hx hb hts hh0 hown hK.1 hP 0 rfl rfl 4 (by decide) hh1 (fun _ h9 => h9) rfl dX4_clearTo_8 ?_
  refine lv_iconst (v := 1) hx hb dX4_clearTo_11 (by decide) ?_
  refine lv_iload_n hx hb dX4_clearTo_12 rfl (lv_at hl 2 rfl) ?_
  have ib13 := ix_in h
  replace h := ix_k h
  refine va_iast hx hb hK.1 hP hD hS 1 0 rfl rfl ib13 dX4_clearTo_13 (fun H locs hP hD hS => ?_)
  replace hP : va_P D vwCl (wX4 g aT t_conditions t_cases t_rules t_defaultAction (upd (upd t_sizes (0 : Int32).toNatClampNeg x1) (1 : Int32).toNatClampNeg x2) t_strides t_costs t_weights t_sets t_actions t_rulesWith) H := hP
  replace hD : va_D (va_A (wX4 g aT t_conditions t_cases t_rules t_defaultAction t_sizes t_strides t_costs t_weights t_sets t_actions t_rulesWith) s.heap.size) (wX4 g aT t_conditions t_cases t_rules t_defaultAction (upd (upd t_sizes (0 : Int32).toNatClampNeg x1) (1 : Int32).toNatClampNeg x2) t_strides t_costs t_weights t_sets t_actions t_rulesWith) := hD
  refine lv_aload_n hx hb dX4_clearTo_14 rfl (lv_at hl 0 rfl) ?_
  refine va_get (D := D) (ci := 4) (v := .ref (aT 1)) (C := RX4) (T := TX4) (N := 11) hx hb hts hh0 hown hK.1 hP 0 rfl rfl 4 (by decide) hh1 (fun _ h9 => h9) rfl dX4_clearTo_15 ?_
  refine lv_iconst (v := 2) hx hb dX4_clearTo_18 (by decide) ?_
  refine lv_iload_n hx hb dX4_clearTo_19 rfl (lv_at hl 3 rfl) ?_
  have ib20 := ix_in h
  replace h := ix_k h
  refine va_iast hx hb hK.1 hP hD hS 1 0 rfl rfl ib20 dX4_clearTo_20 (fun H locs hP hD hS => ?_)
  replace hP : va_P D vwCl (wX4 g aT t_conditions t_cases t_rules t_defaultAction (upd (upd (upd t_sizes (0 : Int32).toNatClampNeg x1) (1 : Int32).toNatClampNeg x2) (2 : Int32).toNatClampNeg x3) t_strides t_costs t_weights t_sets t_actions t_rulesWith) H := hP
  replace hD : va_D (va_A (wX4 g aT t_conditions t_cases t_rules t_defaultAction t_sizes t_strides t_costs t_weights t_sets t_actions t_rulesWith) s.heap.size) (wX4 g aT t_conditions t_cases t_rules t_defaultAction (upd (upd (upd t_sizes (0 : Int32).toNatClampNeg x1) (1 : Int32).toNatClampNeg x2) (2 : Int32).toNatClampNeg x3) t_strides t_costs t_weights t_sets t_actions t_rulesWith) := hD
  refine lv_aload_n hx hb dX4_clearTo_21 rfl (lv_at hl 0 rfl) ?_
  refine va_get (D := D) (ci := 4) (v := .ref (aT 1)) (C := RX4) (T := TX4) (N := 11) hx hb hts hh0 hown hK.1 hP 0 rfl rfl 4 (by decide) hh1 (fun _ h9 => h9) rfl dX4_clearTo_22 ?_
  refine lv_iconst (v := 3) hx hb dX4_clearTo_25 (by decide) ?_
  refine lv_iload hx hb dX4_clearTo_26 (lv_at hl 4 rfl) ?_
  have ib28 := ix_in h
  replace h := ix_k h
  refine va_iast hx hb hK.1 hP hD hS 1 0 rfl rfl ib28 dX4_clearTo_28 (fun H locs hP hD hS => ?_)
  replace hP : va_P D vwCl (wX4 g aT t_conditions t_cases t_rules t_defaultAction (upd (upd (upd (upd t_sizes (0 : Int32).toNatClampNeg x1) (1 : Int32).toNatClampNeg x2) (2 : Int32).toNatClampNeg x3) (3 : Int32).toNatClampNeg x4) t_strides t_costs t_weights t_sets t_actions t_rulesWith) H := hP
  replace hD : va_D (va_A (wX4 g aT t_conditions t_cases t_rules t_defaultAction t_sizes t_strides t_costs t_weights t_sets t_actions t_rulesWith) s.heap.size) (wX4 g aT t_conditions t_cases t_rules t_defaultAction (upd (upd (upd (upd t_sizes (0 : Int32).toNatClampNeg x1) (1 : Int32).toNatClampNeg x2) (2 : Int32).toNatClampNeg x3) (3 : Int32).toNatClampNeg x4) t_strides t_costs t_weights t_sets t_actions t_rulesWith) := hD
  refine lv_aload_n hx hb dX4_clearTo_29 rfl (lv_at hl 0 rfl) ?_
  refine lv_iconst (v := 0) hx hb dX4_clearTo_30 (by decide) ?_
  refine va_put (D := D) (ci := 4) (v := .int (0 : Int32)) (ty := .int) (C := RX4) (T := TX4) (N := 11) hx hb hts hh0 tyX4 tyX4_ok nmX4 hown hK.1 hP hD hS 0 rfl rfl 0 (by decide) hh2 (fun _ h9 => h9) rfl (by decide +kernel) rfl rfl (Nat.le_of_ble_eq_true rfl) dX4_clearTo_31 (fun H locs hP hD hS => ?_)
  replace hP : va_P D vwCl (wX4 g aT (0 : Int32) t_cases t_rules t_defaultAction (upd (upd (upd (upd t_sizes (0 : Int32).toNatClampNeg x1) (1 : Int32).toNatClampNeg x2) (2 : Int32).toNatClampNeg x3) (3 : Int32).toNatClampNeg x4) t_strides t_costs t_weights t_sets t_actions t_rulesWith) H := hP
  replace hD : va_D (va_A (wX4 g aT t_conditions t_cases t_rules t_defaultAction t_sizes t_strides t_costs t_weights t_sets t_actions t_rulesWith) s.heap.size) (wX4 g aT (0 : Int32) t_cases t_rules t_defaultAction (upd (upd (upd (upd t_sizes (0 : Int32).toNatClampNeg x1) (1 : Int32).toNatClampNeg x2) (2 : Int32).toNatClampNeg x3) (3 : Int32).toNatClampNeg x4) t_strides t_costs t_weights t_sets t_actions t_rulesWith) := hD
  refine lv_aload_n hx hb dX4_clearTo_34 rfl (lv_at hl 0 rfl) ?_
  refine lv_iconst (v := 1) hx hb dX4_clearTo_35 (by decide) ?_
  refine va_put (D := D) (ci := 4) (v := .int (1 : Int32)) (ty := .int) (C := RX4) (T := TX4) (N := 11) hx hb hts hh0 tyX4 tyX4_ok nmX4 hown hK.1 hP hD hS 0 rfl rfl 1 (by decide) hh3 (fun _ h9 => h9) rfl (by decide +kernel) rfl rfl (Nat.le_of_ble_eq_true rfl) dX4_clearTo_36 (fun H locs hP hD hS => ?_)
  replace hP : va_P D vwCl (wX4 g aT (0 : Int32) (1 : Int32) t_rules t_defaultAction (upd (upd (upd (upd t_sizes (0 : Int32).toNatClampNeg x1) (1 : Int32).toNatClampNeg x2) (2 : Int32).toNatClampNeg x3) (3 : Int32).toNatClampNeg x4) t_strides t_costs t_weights t_sets t_actions t_rulesWith) H := hP
  replace hD : va_D (va_A (wX4 g aT t_conditions t_cases t_rules t_defaultAction t_sizes t_strides t_costs t_weights t_sets t_actions t_rulesWith) s.heap.size) (wX4 g aT (0 : Int32) (1 : Int32) t_rules t_defaultAction (upd (upd (upd (upd t_sizes (0 : Int32).toNatClampNeg x1) (1 : Int32).toNatClampNeg x2) (2 : Int32).toNatClampNeg x3) (3 : Int32).toNatClampNeg x4) t_strides t_costs t_weights t_sets t_actions t_rulesWith) := hD
  refine lv_iconst (v := 3) hx hb dX4_clearTo_39 (by decide) ?_
  refine lv_istore (lv' := [(5, .int (3 : Int32)), (0, .ref (aT 0)), (1, .int x1), (2, .int x2), (3, .int x3), (4, .int x4)]) hx hb dX4_clearTo_40 hl (by decide) rfl (fun ls hl => ?_)
  have lp42 : ∀ (n : Nat) (v5_42 : Int32) (t_conditions_42 : Int32) (t_cases_42 : Int32) (t_strides_42 : Nat → Int32) (H : Heap) (locs : List Loc), va_P D vwCl (wX4 g aT t_conditions_42 t_cases_42 t_rules t_defaultAction (upd (upd (upd (upd t_sizes (0 : Int32).toNatClampNeg x1) (1 : Int32).toNatClampNeg x2) (2 : Int32).toNatClampNeg x3) (3 : Int32).toNatClampNeg x4) t_strides_42 t_costs t_weights t_sets t_actions t_rulesWith) H → va_D (va_A (wX4 g aT t_conditions t_cases t_rules t_defaultAction t_sizes t_strides t_costs t_weights t_sets t_actions t_rulesWith) s.heap.size) (wX4 g aT t_conditions_42 t_cases_42 t_rules t_defaultAction (upd (upd (upd (upd t_sizes (0 : Int32).toNatClampNeg x1) (1 : Int32).toNatClampNeg x2) (2 : Int32).toNatClampNeg x3) (3 : Int32).toNatClampNeg x4) t_strides_42 t_costs t_weights t_sets t_actions t_rulesWith) → va_S (va_A (wX4 g aT t_conditions t_cases t_rules t_defaultAction t_sizes t_strides t_costs t_weights t_sets t_actions t_rulesWith) s.heap.size) s.heap H locs → wl (fun q => f_X4_clearTo_s42 t_sizes t_costs t_weights t_rulesWith x1 x2 x3 x4 q.1 q.2.1 q.2.2.1 q.2.2.2) n (v5_42, t_conditions_42, t_cases_42, t_strides_42) = some (t_conditions_n, t_cases_n, t_rules_n, t_defaultAction_n, t_sizes_n, t_strides_n, t_costs_n, t_weights_n, t_rulesWith_n) → ∀ ls : Array Slot, lv_has ls 6 [(5, .int v5_42), (0, .ref (aT 0))] → W p l e (headSpec wsX4_clearTo ({ frames := 1, cells := 0, slots := 0, locals := 23 })).room s m ([.ref (aT 0), .int x1, .int x2, .int x3, .int x4] : List Value).toArray below meth c H locs 0 0 (MQ below (QMv D (wX4 g aT t_conditions t_cases t_rules t_defaultAction t_sizes t_strides t_costs t_weights t_sets t_actions t_rulesWith) s.heap.size (wX4 g aT t_conditions_n t_cases_n t_rules_n t_defaultAction_n t_sizes_n t_strides_n t_costs_n t_weights_n t_sets t_actions t_rulesWith_n)) ([.ref (aT 0), .int x1, .int x2, .int x3, .int x4] : List Value).toArray s 0 0 (va_A (wX4 g aT t_conditions t_cases t_rules t_defaultAction t_sizes t_strides t_costs t_weights t_sets t_actions t_rulesWith) s.heap.size)) (F0 m 42 ls []) := by
    intro n
    induction n with
    | zero =>
      intro v5_42 t_conditions_42 t_cases_42 t_strides_42 H locs hP hD hS h
      exact wl_0 h
    | succ n ih1 =>
      intro v5_42 t_conditions_42 t_cases_42 t_strides_42 H locs hP hD hS h ls hl
      obtain ⟨o1, h, k1⟩ := wl_s h
      replace h : f_X4_clearTo_s42 t_sizes t_costs t_weights t_rulesWith x1 x2 x3 x4 v5_42 t_conditions_42 t_cases_42 t_strides_42 = some o1 := h
      unfold f_X4_clearTo_s42 at h
      refine lv_iload hx hb dX4_clearTo_42 (lv_at hl 0 rfl) ?_
      refine lv_if_lt (tgt := 100) hx hb dX4_clearTo_44 (by decide) (fun c44 => ?_) (fun c44 => ?_)
      · replace h := ite_t c44 h
        refine lv_aload_n hx hb dX4_clearTo_100 rfl (lv_at hl 1 rfl) ?_
        refine lv_iconst (v := 0) hx hb dX4_clearTo_101 (by decide) ?_
        refine va_put (D := D) (ci := 4) (v := .int (0 : Int32)) (ty := .int) (C := RX4) (T := TX4) (N := 11) hx hb hts hh0 tyX4 tyX4_ok nmX4 hown hK.1 hP hD hS 0 rfl rfl 2 (by decide) hh4 (fun _ h9 => h9) rfl (by decide +kernel) rfl rfl (Nat.le_of_ble_eq_true rfl) dX4_clearTo_102 (fun H locs hP hD hS => ?_)
        replace hP : va_P D vwCl (wX4 g aT t_conditions_42 t_cases_42 (0 : Int32) t_defaultAction (upd (upd (upd (upd t_sizes (0 : Int32).toNatClampNeg x1) (1 : Int32).toNatClampNeg x2) (2 : Int32).toNatClampNeg x3) (3 : Int32).toNatClampNeg x4) t_strides_42 t_costs t_weights t_sets t_actions t_rulesWith) H := hP
        replace hD : va_D (va_A (wX4 g aT t_conditions t_cases t_rules t_defaultAction t_sizes t_strides t_costs t_weights t_sets t_actions t_rulesWith) s.heap.size) (wX4 g aT t_conditions_42 t_cases_42 (0 : Int32) t_defaultAction (upd (upd (upd (upd t_sizes (0 : Int32).toNatClampNeg x1) (1 : Int32).toNatClampNeg x2) (2 : Int32).toNatClampNeg x3) (3 : Int32).toNatClampNeg x4) t_strides_42 t_costs t_weights t_sets t_actions t_rulesWith) := hD
        refine lv_aload_n hx hb dX4_clearTo_105 rfl (lv_at hl 1 rfl) ?_
        refine lv_iconst (v := -1) hx hb dX4_clearTo_106 (by decide) ?_
        refine va_put (D := D) (ci := 4) (v := .int (-1 : Int32)) (ty := .int) (C := RX4) (T := TX4) (N := 11) hx hb hts hh0 tyX4 tyX4_ok nmX4 hown hK.1 hP hD hS 0 rfl rfl 3 (by decide) hh5 (fun _ h9 => h9) rfl (by decide +kernel) rfl rfl (Nat.le_of_ble_eq_true rfl) dX4_clearTo_107 (fun H locs hP hD hS => ?_)
        replace hP : va_P D vwCl (wX4 g aT t_conditions_42 t_cases_42 (0 : Int32) (-1 : Int32) (upd (upd (upd (upd t_sizes (0 : Int32).toNatClampNeg x1) (1 : Int32).toNatClampNeg x2) (2 : Int32).toNatClampNeg x3) (3 : Int32).toNatClampNeg x4) t_strides_42 t_costs t_weights t_sets t_actions t_rulesWith) H := hP
        replace hD : va_D (va_A (wX4 g aT t_conditions t_cases t_rules t_defaultAction t_sizes t_strides t_costs t_weights t_sets t_actions t_rulesWith) s.heap.size) (wX4 g aT t_conditions_42 t_cases_42 (0 : Int32) (-1 : Int32) (upd (upd (upd (upd t_sizes (0 : Int32).toNatClampNeg x1) (1 : Int32).toNatClampNeg x2) (2 : Int32).toNatClampNeg x3) (3 : Int32).toNatClampNeg x4) t_strides_42 t_costs t_weights t_sets t_actions t_rulesWith) := hD
        refine lv_aload_n hx hb dX4_clearTo_110 rfl (lv_at hl 1 rfl) ?_
        refine va_get (D := D) (ci := 4) (v := .ref (aT 3)) (C := RX4) (T := TX4) (N := 11) hx hb hts hh0 hown hK.1 hP 0 rfl rfl 6 (by decide) hh6 (fun _ h9 => h9) rfl dX4_clearTo_111 ?_
        refine lv_iconst (v := 1) hx hb dX4_clearTo_114 (by decide) ?_
        refine cm_v (ws := (wX4 g aT t_conditions_42 t_cases_42 (0 : Int32) (-1 : Int32) (upd (upd (upd (upd t_sizes (0 : Int32).toNatClampNeg x1) (1 : Int32).toNatClampNeg x2) (2 : Int32).toNatClampNeg x3) (3 : Int32).toNatClampNeg x4) t_strides_42 t_costs t_weights t_sets t_actions t_rulesWith)) (isC := [3]) (va_runS (As := [.ref (aT 3), .int (1 : Int32)]) (rest := []) ⟨hx, hb, hml, hown, hts⟩ (c_J7_fill_53178 l H.size D g (aT 3) 4 t_costs (1 : Int32) (Nat.le_of_ble_eq_true rfl)) (va_cwS 2 hts gX4_clearTo_J7_fill_53178 rfl rfl rfl pd_J7_fill_53178 ⟨Nat.le_of_ble_eq_true rfl, Nat.le_of_ble_eq_true rfl⟩) (pw_s hK (hP.sub (ws' := [(aT 3, .inl (g 0, 4, .inl t_costs))]) [3] rfl) (hD.sub (ws' := [(aT 3, .inl (g 0, 4, .inl t_costs))]) [3] (by decide) rfl)) rfl rfl hl.1 rfl (lv_room (Nat.le_of_ble_eq_true rfl)) dX4_clearTo_115 ⟨Nat.zero_le _, Nat.zero_le _⟩) hP hD hS hA rfl [0, 1, 2, 4, 5, 6, 7] (wr := ([0, 1, 2, 4, 5, 6, 7].filterMap (fun i => (wX4 g aT t_conditions_42 t_cases_42 (0 : Int32) (-1 : Int32) (upd (upd (upd (upd t_sizes (0 : Int32).toNatClampNeg x1) (1 : Int32).toNatClampNeg x2) (2 : Int32).toNatClampNeg x3) (3 : Int32).toNatClampNeg x4) t_strides_42 t_costs t_weights t_sets t_actions t_rulesWith)[i]?))) rfl (by decide) (by decide) [0, 1, 2, 7, 3, 4, 5, 6] (w2 := (wX4 g aT t_conditions_42 t_cases_42 (0 : Int32) (-1 : Int32) (upd (upd (upd (upd t_sizes (0 : Int32).toNatClampNeg x1) (1 : Int32).toNatClampNeg x2) (2 : Int32).toNatClampNeg x3) (3 : Int32).toNatClampNeg x4) t_strides_42 (fil 4 (1 : Int32) t_costs) t_weights t_sets t_actions t_rulesWith)) rfl (by decide) (fun H locs hP hD hS => ?_)
        refine lv_aload_n hx hb dX4_clearTo_118 rfl (lv_at hl 1 rfl) ?_
        refine va_get (D := D) (ci := 4) (v := .ref (aT 4)) (C := RX4) (T := TX4) (N := 11) hx hb hts hh0 hown hK.1 hP 0 rfl rfl 7 (by decide) hh7 (fun _ h9 => h9) rfl dX4_clearTo_119 ?_
        refine lv_iconst (v := 1) hx hb dX4_clearTo_122 (by decide) ?_
        refine cm_v (ws := (wX4 g aT t_conditions_42 t_cases_42 (0 : Int32) (-1 : Int32) (upd (upd (upd (upd t_sizes (0 : Int32).toNatClampNeg x1) (1 : Int32).toNatClampNeg x2) (2 : Int32).toNatClampNeg x3) (3 : Int32).toNatClampNeg x4) t_strides_42 (fil 4 (1 : Int32) t_costs) t_weights t_sets t_actions t_rulesWith)) (isC := [4]) (va_runS (As := [.ref (aT 4), .int (1 : Int32)]) (rest := []) ⟨hx, hb, hml, hown, hts⟩ (c_J7_fill_53178 l H.size D g (aT 4) 20 t_weights (1 : Int32) (Nat.le_of_ble_eq_true rfl)) (va_cwS 2 hts gX4_clearTo_J7_fill_53178 rfl rfl rfl pd_J7_fill_53178 ⟨Nat.le_of_ble_eq_true rfl, Nat.le_of_ble_eq_true rfl⟩) (pw_s hK (hP.sub (ws' := [(aT 4, .inl (g 0, 20, .inl t_weights))]) [4] rfl) (hD.sub (ws' := [(aT 4, .inl (g 0, 20, .inl t_weights))]) [4] (by decide) rfl)) rfl rfl hl.1 rfl (lv_room (Nat.le_of_ble_eq_true rfl)) dX4_clearTo_123 ⟨Nat.zero_le _, Nat.zero_le _⟩) hP hD hS hA rfl [0, 1, 2, 3, 5, 6, 7] (wr := ([0, 1, 2, 3, 5, 6, 7].filterMap (fun i => (wX4 g aT t_conditions_42 t_cases_42 (0 : Int32) (-1 : Int32) (upd (upd (upd (upd t_sizes (0 : Int32).toNatClampNeg x1) (1 : Int32).toNatClampNeg x2) (2 : Int32).toNatClampNeg x3) (3 : Int32).toNatClampNeg x4) t_strides_42 (fil 4 (1 : Int32) t_costs) t_weights t_sets t_actions t_rulesWith)[i]?))) rfl (by decide) (by decide) [0, 1, 2, 3, 7, 4, 5, 6] (w2 := (wX4 g aT t_conditions_42 t_cases_42 (0 : Int32) (-1 : Int32) (upd (upd (upd (upd t_sizes (0 : Int32).toNatClampNeg x1) (1 : Int32).toNatClampNeg x2) (2 : Int32).toNatClampNeg x3) (3 : Int32).toNatClampNeg x4) t_strides_42 (fil 4 (1 : Int32) t_costs) (fil 20 (1 : Int32) t_weights) t_sets t_actions t_rulesWith)) rfl (by decide) (fun H locs hP hD hS => ?_)
        refine lv_aload_n hx hb dX4_clearTo_126 rfl (lv_at hl 1 rfl) ?_
        refine va_get (D := D) (ci := 4) (v := .ref (aT 7)) (C := RX4) (T := TX4) (N := 11) hx hb hts hh0 hown hK.1 hP 0 rfl rfl 10 (by decide) hh8 (fun _ h9 => h9) rfl dX4_clearTo_127 ?_
        refine lv_iconst (v := 0) hx hb dX4_clearTo_130 (by decide) ?_
        refine cm_v (ws := (wX4 g aT t_conditions_42 t_cases_42 (0 : Int32) (-1 : Int32) (upd (upd (upd (upd t_sizes (0 : Int32).toNatClampNeg x1) (1 : Int32).toNatClampNeg x2) (2 : Int32).toNatClampNeg x3) (3 : Int32).toNatClampNeg x4) t_strides_42 (fil 4 (1 : Int32) t_costs) (fil 20 (1 : Int32) t_weights) t_sets t_actions t_rulesWith)) (isC := [7]) (va_runS (As := [.ref (aT 7), .int (0 : Int32)]) (rest := []) ⟨hx, hb, hml, hown, hts⟩ (c_J7_fill_53178 l H.size D g (aT 7) 20 t_rulesWith (0 : Int32) (Nat.le_of_ble_eq_true rfl)) (va_cwS 2 hts gX4_clearTo_J7_fill_53178 rfl rfl rfl pd_J7_fill_53178 ⟨Nat.le_of_ble_eq_true rfl, Nat.le_of_ble_eq_true rfl⟩) (pw_s hK (hP.sub (ws' := [(aT 7, .inl (g 0, 20, .inl t_rulesWith))]) [7] rfl) (hD.sub (ws' := [(aT 7, .inl (g 0, 20, .inl t_rulesWith))]) [7] (by decide) rfl)) rfl rfl hl.1 rfl (lv_room (Nat.le_of_ble_eq_true rfl)) dX4_clearTo_131 ⟨Nat.zero_le _, Nat.zero_le _⟩) hP hD hS hA rfl [0, 1, 2, 3, 4, 5, 6] (wr := ([0, 1, 2, 3, 4, 5, 6].filterMap (fun i => (wX4 g aT t_conditions_42 t_cases_42 (0 : Int32) (-1 : Int32) (upd (upd (upd (upd t_sizes (0 : Int32).toNatClampNeg x1) (1 : Int32).toNatClampNeg x2) (2 : Int32).toNatClampNeg x3) (3 : Int32).toNatClampNeg x4) t_strides_42 (fil 4 (1 : Int32) t_costs) (fil 20 (1 : Int32) t_weights) t_sets t_actions t_rulesWith)[i]?))) rfl (by decide) (by decide) [0, 1, 2, 3, 4, 5, 6, 7] (w2 := (wX4 g aT t_conditions_42 t_cases_42 (0 : Int32) (-1 : Int32) (upd (upd (upd (upd t_sizes (0 : Int32).toNatClampNeg x1) (1 : Int32).toNatClampNeg x2) (2 : Int32).toNatClampNeg x3) (3 : Int32).toNatClampNeg x4) t_strides_42 (fil 4 (1 : Int32) t_costs) (fil 20 (1 : Int32) t_weights) t_sets t_actions (fil 20 (0 : Int32) t_rulesWith))) rfl (by decide) (fun H locs hP hD hS => ?_)
        replace h := Option.some.inj h
        subst h
        replace h := wk_r k1
        have hj0 := (Prod.mk.inj h).1
        have hg0 := (Prod.mk.inj h).2
        have hj1 := (Prod.mk.inj hg0).1
        have hg1 := (Prod.mk.inj hg0).2
        have hj2 := (Prod.mk.inj hg1).1
        have hg2 := (Prod.mk.inj hg1).2
        have hj3 := (Prod.mk.inj hg2).1
        have hg3 := (Prod.mk.inj hg2).2
        have hj4 := (Prod.mk.inj hg3).1
        have hg4 := (Prod.mk.inj hg3).2
        have hj5 := (Prod.mk.inj hg4).1
        have hg5 := (Prod.mk.inj hg4).2
        have hj6 := (Prod.mk.inj hg5).1
        have hg6 := (Prod.mk.inj hg5).2
        have hj7 := (Prod.mk.inj hg6).1
        have hg7 := (Prod.mk.inj hg6).2
        clear hg0
        clear hg1
        clear hg2
        clear hg3
        clear hg4
        clear hg5
        clear hg6
        subst hj0
        subst hj1
        subst hj2
        subst hj3
        subst hj4
        subst hj5
        subst hj6
        subst hj7
        subst hg7
        exact W.vret hx hb hr (fun t ht hW => ⟨⟨(), rfl, trivial, by rw [ht]; exact hP, hD⟩, hS.F ht⟩) hS.2.2 dX4_clearTo_134
      · replace h := ite_f c44 h
        refine lv_aload_n hx hb dX4_clearTo_47 rfl (lv_at hl 1 rfl) ?_
        refine va_get (D := D) (ci := 4) (v := .ref (aT 2)) (C := RX4) (T := TX4) (N := 11) hx hb hts hh0 hown hK.1 hP 0 rfl rfl 5 (by decide) hh9 (fun _ h9 => h9) rfl dX4_clearTo_48 ?_
        refine lv_iload hx hb dX4_clearTo_51 (lv_at hl 0 rfl) ?_
        refine lv_aload_n hx hb dX4_clearTo_53 rfl (lv_at hl 1 rfl) ?_
        refine va_get (D := D) (ci := 4) (v := .int t_cases_42) (C := RX4) (T := TX4) (N := 11) hx hb hts hh0 hown hK.1 hP 0 rfl rfl 1 (by decide) hh3 (fun _ h9 => h9) rfl dX4_clearTo_54 ?_
        have ib57 := ix_in h
        replace h := ix_k h
        refine va_iast hx hb hK.1 hP hD hS 2 0 rfl rfl ib57 dX4_clearTo_57 (fun H locs hP hD hS => ?_)
        replace hP : va_P D vwCl (wX4 g aT t_conditions_42 t_cases_42 t_rules t_defaultAction (upd (upd (upd (upd t_sizes (0 : Int32).toNatClampNeg x1) (1 : Int32).toNatClampNeg x2) (2 : Int32).toNatClampNeg x3) (3 : Int32).toNatClampNeg x4) (upd t_strides_42 v5_42.toNatClampNeg t_cases_42) t_costs t_weights t_sets t_actions t_rulesWith) H := hP
        replace hD : va_D (va_A (wX4 g aT t_conditions t_cases t_rules t_defaultAction t_sizes t_strides t_costs t_weights t_sets t_actions t_rulesWith) s.heap.size) (wX4 g aT t_conditions_42 t_cases_42 t_rules t_defaultAction (upd (upd (upd (upd t_sizes (0 : Int32).toNatClampNeg x1) (1 : Int32).toNatClampNeg x2) (2 : Int32).toNatClampNeg x3) (3 : Int32).toNatClampNeg x4) (upd t_strides_42 v5_42.toNatClampNeg t_cases_42) t_costs t_weights t_sets t_actions t_rulesWith) := hD
        refine lv_aload_n hx hb dX4_clearTo_58 rfl (lv_at hl 1 rfl) ?_
        refine va_get (D := D) (ci := 4) (v := .ref (aT 1)) (C := RX4) (T := TX4) (N := 11) hx hb hts hh0 hown hK.1 hP 0 rfl rfl 4 (by decide) hh1 (fun _ h9 => h9) rfl dX4_clearTo_59 ?_
        refine lv_iload hx hb dX4_clearTo_62 (lv_at hl 0 rfl) ?_
        have iz64 := ib57
        refine va_iald hx hb hK.1 hP 1 0 rfl rfl iz64 dX4_clearTo_64 (lv_topi (fun z64 ez64 => ?_))
        replace h := nm_n h ez64
        refine lv_if_le (tgt := 94) hx hb dX4_clearTo_65 (by decide) (fun c65 => ?_) (fun c65 => ?_)
        · replace h := ite_t c65 h
          refine lv_iinc (v := (v5_42 + (-1))) (lv' := [(5, .int (v5_42 + (-1))), (0, .ref (aT 0))]) hx hb dX4_clearTo_94 hl (k := 0) rfl rfl (by decide) rfl (fun ls hl => ?_)
          refine lv_goto (tgt := 42) hx hb dX4_clearTo_97 (by decide) ?_
          replace h := Option.some.inj h
          subst h
          exact ih1 (v5_42 + (-1)) t_conditions_42 t_cases_42 (upd t_strides_42 v5_42.toNatClampNeg t_cases_42) H locs hP hD hS (wk_l k1) ls (lv_sub hl [0, 1] rfl)
        · replace h := ite_f c65 h
          refine lv_aload_n hx hb dX4_clearTo_68 rfl (lv_at hl 1 rfl) ?_
          refine lv_dup hx hb dX4_clearTo_69 rfl ?_
          refine va_get (D := D) (ci := 4) (v := .int t_conditions_42) (C := RX4) (T := TX4) (N := 11) hx hb hts hh0 hown hK.1 hP 0 rfl rfl 0 (by decide) hh2 (fun _ h9 => h9) rfl dX4_clearTo_70 ?_
          refine lv_iconst (v := 1) hx hb dX4_clearTo_73 (by decide) ?_
          refine lv_iadd hx hb dX4_clearTo_74 ?_
          refine va_put (D := D) (ci := 4) (v := .int (t_conditions_42 + (1 : Int32))) (ty := .int) (C := RX4) (T := TX4) (N := 11) hx hb hts hh0 tyX4 tyX4_ok nmX4 hown hK.1 hP hD hS 0 rfl rfl 0 (by decide) hh2 (fun _ h9 => h9) rfl (by decide +kernel) rfl rfl (Nat.le_of_ble_eq_true rfl) dX4_clearTo_75 (fun H locs hP hD hS => ?_)
          replace hP : va_P D vwCl (wX4 g aT (t_conditions_42 + (1 : Int32)) t_cases_42 t_rules t_defaultAction (upd (upd (upd (upd t_sizes (0 : Int32).toNatClampNeg x1) (1 : Int32).toNatClampNeg x2) (2 : Int32).toNatClampNeg x3) (3 : Int32).toNatClampNeg x4) (upd t_strides_42 v5_42.toNatClampNeg t_cases_42) t_costs t_weights t_sets t_actions t_rulesWith) H := hP
          replace hD : va_D (va_A (wX4 g aT t_conditions t_cases t_rules t_defaultAction t_sizes t_strides t_costs t_weights t_sets t_actions t_rulesWith) s.heap.size) (wX4 g aT (t_conditions_42 + (1 : Int32)) t_cases_42 t_rules t_defaultAction (upd (upd (upd (upd t_sizes (0 : Int32).toNatClampNeg x1) (1 : Int32).toNatClampNeg x2) (2 : Int32).toNatClampNeg x3) (3 : Int32).toNatClampNeg x4) (upd t_strides_42 v5_42.toNatClampNeg t_cases_42) t_costs t_weights t_sets t_actions t_rulesWith) := hD
          refine lv_aload_n hx hb dX4_clearTo_78 rfl (lv_at hl 1 rfl) ?_
          refine lv_dup hx hb dX4_clearTo_79 rfl ?_
          refine va_get (D := D) (ci := 4) (v := .int t_cases_42) (C := RX4) (T := TX4) (N := 11) hx hb hts hh0 hown hK.1 hP 0 rfl rfl 1 (by decide) hh3 (fun _ h9 => h9) rfl dX4_clearTo_80 ?_
          refine lv_aload_n hx hb dX4_clearTo_83 rfl (lv_at hl 1 rfl) ?_
          refine va_get (D := D) (ci := 4) (v := .ref (aT 1)) (C := RX4) (T := TX4) (N := 11) hx hb hts hh0 hown hK.1 hP 0 rfl rfl 4 (by decide) hh1 (fun _ h9 => h9) rfl dX4_clearTo_84 ?_
          refine lv_iload hx hb dX4_clearTo_87 (lv_at hl 0 rfl) ?_
          refine va_iald hx hb hK.1 hP 1 0 rfl rfl iz64 dX4_clearTo_89 (lv_topi (fun u89 eu89 => ?_))
          have eu : z64 = u89 := ez64.trans eu89.symm
          subst eu
          refine lv_imul hx hb dX4_clearTo_90 ?_
          refine va_put (D := D) (ci := 4) (v := .int (t_cases_42 * z64)) (ty := .int) (C := RX4) (T := TX4) (N := 11) hx hb hts hh0 tyX4 tyX4_ok nmX4 hown hK.1 hP hD hS 0 rfl rfl 1 (by decide) hh3 (fun _ h9 => h9) rfl (by decide +kernel) rfl rfl (Nat.le_of_ble_eq_true rfl) dX4_clearTo_91 (fun H locs hP hD hS => ?_)
          replace hP : va_P D vwCl (wX4 g aT (t_conditions_42 + (1 : Int32)) (t_cases_42 * z64) t_rules t_defaultAction (upd (upd (upd (upd t_sizes (0 : Int32).toNatClampNeg x1) (1 : Int32).toNatClampNeg x2) (2 : Int32).toNatClampNeg x3) (3 : Int32).toNatClampNeg x4) (upd t_strides_42 v5_42.toNatClampNeg t_cases_42) t_costs t_weights t_sets t_actions t_rulesWith) H := hP
          replace hD : va_D (va_A (wX4 g aT t_conditions t_cases t_rules t_defaultAction t_sizes t_strides t_costs t_weights t_sets t_actions t_rulesWith) s.heap.size) (wX4 g aT (t_conditions_42 + (1 : Int32)) (t_cases_42 * z64) t_rules t_defaultAction (upd (upd (upd (upd t_sizes (0 : Int32).toNatClampNeg x1) (1 : Int32).toNatClampNeg x2) (2 : Int32).toNatClampNeg x3) (3 : Int32).toNatClampNeg x4) (upd t_strides_42 v5_42.toNatClampNeg t_cases_42) t_costs t_weights t_sets t_actions t_rulesWith) := hD
          refine lv_iinc (v := (v5_42 + (-1))) (lv' := [(5, .int (v5_42 + (-1))), (0, .ref (aT 0))]) hx hb dX4_clearTo_94 hl (k := 0) rfl rfl (by decide) rfl (fun ls hl => ?_)
          refine lv_goto (tgt := 42) hx hb dX4_clearTo_97 (by decide) ?_
          replace h := Option.some.inj h
          subst h
          exact ih1 (v5_42 + (-1)) (t_conditions_42 + (1 : Int32)) (t_cases_42 * z64) (upd t_strides_42 v5_42.toNatClampNeg t_cases_42) H locs hP hD hS (wk_l k1) ls (lv_sub hl [0, 1] rfl)
  exact lp42 5000 (3 : Int32) (0 : Int32) (1 : Int32) t_strides H locs hP hD hS h ls (lv_sub hl [0, 1] rfl)
theorem pd_X4_copyFrom : yX4_copyFrom.cls ≠ "java/lang/invoke/MethodHandle" ∧ yX4_copyFrom.cls ≠ "java/lang/invoke/VarHandle" ∧ (parseMethodDescriptor yX4_copyFrom.desc).map (fun d => d.parameters.length) = some 1 := by decide +kernel
def f_X4_copyFrom (t_conditions : Int32) (t_cases : Int32) (t_rules : Int32) (t_defaultAction : Int32) (t_sizes : Nat → Int32) (t_strides : Nat → Int32) (t_costs : Nat → Int32) (t_weights : Nat → Int32) (t_sets : Nat → Int32) (t_actions : Nat → Int32) (t_rulesWith : Nat → Int32) (u_conditions : Int32) (u_cases : Int32) (u_rules : Int32) (u_defaultAction : Int32) (u_sizes : Nat → Int32) (u_strides : Nat → Int32) (u_costs : Nat → Int32) (u_weights : Nat → Int32) (u_sets : Nat → Int32) (u_actions : Nat → Int32) (u_rulesWith : Nat → Int32) : Option (Int32 × Int32 × Int32 × Int32 × (Nat → Int32) × (Nat → Int32) × (Nat → Int32) × (Nat → Int32) × (Nat → Int32) × (Nat → Int32) × (Nat → Int32)) :=
  (cp 4 4 (0 : Int32) (0 : Int32) (4 : Int32) (cp 4 4 (0 : Int32) (0 : Int32) (4 : Int32) (cp 4 4 (0 : Int32) (0 : Int32) (4 : Int32) (cp 20 20 (0 : Int32) (0 : Int32) (20 : Int32) (cp 48 48 (0 : Int32) (0 : Int32) (48 : Int32) (cp 12 12 (0 : Int32) (0 : Int32) (12 : Int32) (cp 20 20 (0 : Int32) (0 : Int32) (20 : Int32) (some (u_conditions, u_cases, u_rules, u_defaultAction, (va_cpy u_sizes t_sizes (0 : Int32).toNatClampNeg (0 : Int32).toNatClampNeg (4 : Int32).toNatClampNeg), (va_cpy u_strides t_strides (0 : Int32).toNatClampNeg (0 : Int32).toNatClampNeg (4 : Int32).toNatClampNeg), (va_cpy u_costs t_costs (0 : Int32).toNatClampNeg (0 : Int32).toNatClampNeg (4 : Int32).toNatClampNeg), (va_cpy u_weights t_weights (0 : Int32).toNatClampNeg (0 : Int32).toNatClampNeg (20 : Int32).toNatClampNeg), (va_cpy u_sets t_sets (0 : Int32).toNatClampNeg (0 : Int32).toNatClampNeg (48 : Int32).toNatClampNeg), (va_cpy u_actions t_actions (0 : Int32).toNatClampNeg (0 : Int32).toNatClampNeg (12 : Int32).toNatClampNeg), (va_cpy u_rulesWith t_rulesWith (0 : Int32).toNatClampNeg (0 : Int32).toNatClampNeg (20 : Int32).toNatClampNeg))))))))))
set_option maxHeartbeats 4000000 in
set_option maxRecDepth 100000 in
theorem c_X4_copyFrom (l : Launch) (sz : Nat) (D : va_G) (g : Nat → ClassId) (aT aU : Nat → Nat) (t_conditions : Int32) (t_cases : Int32) (t_rules : Int32) (t_defaultAction : Int32) (t_sizes : Nat → Int32) (t_strides : Nat → Int32) (t_costs : Nat → Int32) (t_weights : Nat → Int32) (t_sets : Nat → Int32) (t_actions : Nat → Int32) (t_rulesWith : Nat → Int32) (u_conditions : Int32) (u_cases : Int32) (u_rules : Int32) (u_defaultAction : Int32) (u_sizes : Nat → Int32) (u_strides : Nat → Int32) (u_costs : Nat → Int32) (u_weights : Nat → Int32) (u_sets : Nat → Int32) (u_actions : Nat → Int32) (u_rulesWith : Nat → Int32)  (t_conditions_n : Int32) (t_cases_n : Int32) (t_rules_n : Int32) (t_defaultAction_n : Int32) (t_sizes_n : Nat → Int32) (t_strides_n : Nat → Int32) (t_costs_n : Nat → Int32) (t_weights_n : Nat → Int32) (t_sets_n : Nat → Int32) (t_actions_n : Nat → Int32) (t_rulesWith_n : Nat → Int32) (hf : f_X4_copyFrom t_conditions t_cases t_rules t_defaultAction t_sizes t_strides t_costs t_weights t_sets t_actions t_rulesWith u_conditions u_cases u_rules u_defaultAction u_sizes u_strides u_costs u_weights u_sets u_actions u_rulesWith = some (t_conditions_n, t_cases_n, t_rules_n, t_defaultAction_n, t_sizes_n, t_strides_n, t_costs_n, t_weights_n, t_sets_n, t_actions_n, t_rulesWith_n)) : CM l yX4_copyFrom wsX4_copyFrom 1 60 sz D g [.ref (aT 0), .ref (aU 0)] (wX4 g aT t_conditions t_cases t_rules t_defaultAction t_sizes t_strides t_costs t_weights t_sets t_actions t_rulesWith ++ (wX4 g aU u_conditions u_cases u_rules u_defaultAction u_sizes u_strides u_costs u_weights u_sets u_actions u_rulesWith)) (QMv D (wX4 g aT t_conditions t_cases t_rules t_defaultAction t_sizes t_strides t_costs t_weights t_sets t_actions t_rulesWith ++ (wX4 g aU u_conditions u_cases u_rules u_defaultAction u_sizes u_strides u_costs u_weights u_sets u_actions u_rulesWith)) sz (wX4 g aT t_conditions_n t_cases_n t_rules_n t_defaultAction_n t_sizes_n t_strides_n t_costs_n t_weights_n t_sets_n t_actions_n t_rulesWith_n ++ (wX4 g aU u_conditions u_cases u_rules u_defaultAction u_sizes u_strides u_costs u_weights u_sets u_actions u_rulesWith))) := by
  refine Met.ofW (cc := cX4_copyFrom) (maxL := 2) (ret := none) (by decide) rfl ?_
  intro p e s m args below meth c s₁ B hml hv
  obtain ⟨rfl, hsz, hP, hK, hD0⟩ := hv
  have hx := B.exec
  have hb := B.bytes
  have hr := B.returns
  have hts := atoms_spec (ws := wsX4_copyFrom) B.pre
  have hown : s.vm.findClass RX4 = some m.cls := findClass_of_methodNamed B.named
  have hlocks := B.notSynchronized
  have hh0 := (show ∀ w ∈ wsX40, w ∈ wsX4_copyFrom from by decide +kernel)
  have hh1 := hts (.fieldLink RX4 33 "DecisionTableCompiler$Table" "conditions" "I") (by decide +kernel)
  have hh2 := hts (.fieldLink RX4 37 "DecisionTableCompiler$Table" "cases" "I") (by decide +kernel)
  have hh3 := hts (.fieldLink RX4 40 "DecisionTableCompiler$Table" "rules" "I") (by decide +kernel)
  have hh4 := hts (.fieldLink RX4 43 "DecisionTableCompiler$Table" "defaultAction" "I") (by decide +kernel)
  have hh5 := hts (.fieldLink RX4 9 "DecisionTableCompiler$Table" "sizes" "[I") (by decide +kernel)
  have hh6 := hts (.methodLink RX4 52 arraycopyName) (by decide +kernel)
  have hh7 := hts (.native arraycopyName) (by decide +kernel)
  have hh8 := hts (.static arraycopyName) (by decide +kernel)
  have hh9 := hts (.initialized "java/lang/System") (by decide +kernel)
  have hh10 := hts (.fieldLink RX4 15 "DecisionTableCompiler$Table" "strides" "[I") (by decide +kernel)
  have hh11 := hts (.fieldLink RX4 18 "DecisionTableCompiler$Table" "costs" "[I") (by decide +kernel)
  have hh12 := hts (.fieldLink RX4 21 "DecisionTableCompiler$Table" "weights" "[I") (by decide +kernel)
  have hh13 := hts (.fieldLink RX4 24 "DecisionTableCompiler$Table" "sets" "[I") (by decide +kernel)
  have hh14 := hts (.fieldLink RX4 27 "DecisionTableCompiler$Table" "actions" "[I") (by decide +kernel)
  have hh15 := hts (.fieldLink RX4 30 "DecisionTableCompiler$Table" "rulesWith" "[I") (by decide +kernel)
  subst hsz
  have hD := hD0.self (sz := s.heap.size)
  have hA : ∀ q : Nat, s.heap.size ≤ q → va_A (wX4 g aT t_conditions t_cases t_rules t_defaultAction t_sizes t_strides t_costs t_weights t_sets t_actions t_rulesWith ++ (wX4 g aU u_conditions u_cases u_rules u_defaultAction u_sizes u_strides u_costs u_weights u_sets u_actions u_rulesWith)) s.heap.size q := fun q h => Or.inr h
  have hS : va_S (va_A (wX4 g aT t_conditions t_cases t_rules t_defaultAction t_sizes t_strides t_costs t_weights t_sets t_actions t_rulesWith ++ (wX4 g aU u_conditions u_cases u_rules u_defaultAction u_sizes u_strides u_costs u_weights u_sets u_actions u_rulesWith)) s.heap.size) s.heap s.heap [] := va_S.rf
  have hl := lv_entry ([.ref (aT 0), .ref (aU 0)]) (n := 2) (Nat.le_of_ble_eq_true rfl)
  rw [lg_entry_eq]
  generalize (lg_sl ([.ref (aT 0), .ref (aU 0)]) ++ List.replicate (2 - (lg_sl ([.ref (aT 0), .ref (aU 0)])).length) Slot.unset).toArray = ls at hl ⊢
  replace hl : lv_has ls 2 [(0, .ref (aT 0)), (1, .ref (aU 0))] := hl
  have h := hf
  unfold f_X4_copyFrom at h
  obtain ⟨H, hH⟩ : ∃ H, H = s.heap := ⟨_, rfl⟩
  obtain ⟨locs, hlc⟩ : ∃ q : List Loc, q = [] := ⟨_, rfl⟩
  have hS : va_S (va_A (wX4 g aT t_conditions t_cases t_rules t_defaultAction t_sizes t_strides t_costs t_weights t_sets t_actions t_rulesWith ++ (wX4 g aU u_conditions u_cases u_rules u_defaultAction u_sizes u_strides u_costs u_weights u_sets u_actions u_rulesWith)) s.heap.size) s.heap H locs := by rw [hH, hlc]; exact hS
  replace hP : va_P D vwCl (wX4 g aT t_conditions t_cases t_rules t_defaultAction t_sizes t_strides t_costs t_weights t_sets t_actions t_rulesWith ++ (wX4 g aU u_conditions u_cases u_rules u_defaultAction u_sizes u_strides u_costs u_weights u_sets u_actions u_rulesWith)) H := by rw [hH]; exact hP
  suffices hW : W p l e (headSpec wsX4_copyFrom ({ frames := 1, cells := 0, slots := 0, locals := 60 })).room s m ([.ref (aT 0), .ref (aU 0)] : List Value).toArray below meth c H locs 0 0 (MQ below (QMv D (wX4 g aT t_conditions t_cases t_rules t_defaultAction t_sizes t_strides t_costs t_weights t_sets t_actions t_rulesWith ++ (wX4 g aU u_conditions u_cases u_rules u_defaultAction u_sizes u_strides u_costs u_weights u_sets u_actions u_rulesWith)) s.heap.size (wX4 g aT t_conditions_n t_cases_n t_rules_n t_defaultAction_n t_sizes_n t_strides_n t_costs_n t_weights_n t_sets_n t_actions_n t_rulesWith_n ++ (wX4 g aU u_conditions u_cases u_rules u_defaultAction u_sizes u_strides u_costs u_weights u_sets u_actions u_rulesWith))) ([.ref (aT 0), .ref (aU 0)] : List Value).toArray s 0 0 (va_A (wX4 g aT t_conditions t_cases t_rules t_defaultAction t_sizes t_strides t_costs t_weights t_sets t_actions t_rulesWith ++ (wX4 g aU u_conditions u_cases u_rules u_defaultAction u_sizes u_strides u_costs u_weights u_sets u_actions u_rulesWith)) s.heap.size)) (F0 m 0 ls []) by rw [hH, hlc] at hW; exact hW
  clear hH hlc
  refine lv_aload_n hx hb dX4_copyFrom_0 rfl (lv_at hl 0 rfl) ?_
  refine lv_aload_n hx hb dX4_copyFrom_1 rfl (lv_at hl 1 rfl) ?_
  refine va_get (D := D) (ci := 4) (v := .int u_conditions) (C := RX4) (T := TX4) (N := 11) hx hb hts hh0 hown hK.1 hP 8 rfl rfl 0 (by decide) hh1 (fun _ h9 => h9) rfl dX4_copyFrom_2 ?_
  refine va_put (D := D) (ci := 4) (v := .int u_conditions) (ty := .int) (C := RX4) (T := TX4) (N := 11) hx hb hts hh0 tyX4 tyX4_ok nmX4 hown hK.1 hP hD hS 0 rfl rfl 0 (by decide) hh1 (fun _ h9 => h9) rfl (by decide +kernel) rfl rfl (Nat.le_of_ble_eq_true rfl) dX4_copyFrom_5 (fun H locs hP hD hS => ?_)
  replace hP : va_P D vwCl (wX4 g aT u_conditions t_cases t_rules t_defaultAction t_sizes t_strides t_costs t_weights t_sets t_actions t_rulesWith ++ (wX4 g aU u_conditions u_cases u_rules u_defaultAction u_sizes u_strides u_costs u_weights u_sets u_actions u_rulesWith)) H := hP
  replace hD : va_D (va_A (wX4 g aT t_conditions t_cases t_rules t_defaultAction t_sizes t_strides t_costs t_weights t_sets t_actions t_rulesWith ++ (wX4 g aU u_conditions u_cases u_rules u_defaultAction u_sizes u_strides u_costs u_weights u_sets u_actions u_rulesWith)) s.heap.size) (wX4 g aT u_conditions t_cases t_rules t_defaultAction t_sizes t_strides t_costs t_weights t_sets t_actions t_rulesWith ++ (wX4 g aU u_conditions u_cases u_rules u_defaultAction u_sizes u_strides u_costs u_weights u_sets u_actions u_rulesWith)) := hD
  refine lv_aload_n hx hb dX4_copyFrom_8 rfl (lv_at hl 0 rfl) ?_
  refine lv_aload_n hx hb dX4_copyFrom_9 rfl (lv_at hl 1 rfl) ?_
  refine va_get (D := D) (ci := 4) (v := .int u_cases) (C := RX4) (T := TX4) (N := 11) hx hb hts hh0 hown hK.1 hP 8 rfl rfl 1 (by decide) hh2 (fun _ h9 => h9) rfl dX4_copyFrom_10 ?_
  refine va_put (D := D) (ci := 4) (v := .int u_cases) (ty := .int) (C := RX4) (T := TX4) (N := 11) hx hb hts hh0 tyX4 tyX4_ok nmX4 hown hK.1 hP hD hS 0 rfl rfl 1 (by decide) hh2 (fun _ h9 => h9) rfl (by decide +kernel) rfl rfl (Nat.le_of_ble_eq_true rfl) dX4_copyFrom_13 (fun H locs hP hD hS => ?_)
  replace hP : va_P D vwCl (wX4 g aT u_conditions u_cases t_rules t_defaultAction t_sizes t_strides t_costs t_weights t_sets t_actions t_rulesWith ++ (wX4 g aU u_conditions u_cases u_rules u_defaultAction u_sizes u_strides u_costs u_weights u_sets u_actions u_rulesWith)) H := hP
  replace hD : va_D (va_A (wX4 g aT t_conditions t_cases t_rules t_defaultAction t_sizes t_strides t_costs t_weights t_sets t_actions t_rulesWith ++ (wX4 g aU u_conditions u_cases u_rules u_defaultAction u_sizes u_strides u_costs u_weights u_sets u_actions u_rulesWith)) s.heap.size) (wX4 g aT u_conditions u_cases t_rules t_defaultAction t_sizes t_strides t_costs t_weights t_sets t_actions t_rulesWith ++ (wX4 g aU u_conditions u_cases u_rules u_defaultAction u_sizes u_strides u_costs u_weights u_sets u_actions u_rulesWith)) := hD
  refine lv_aload_n hx hb dX4_copyFrom_16 rfl (lv_at hl 0 rfl) ?_
  refine lv_aload_n hx hb dX4_copyFrom_17 rfl (lv_at hl 1 rfl) ?_
  refine va_get (D := D) (ci := 4) (v := .int u_rules) (C := RX4) (T := TX4) (N := 11) hx hb hts hh0 hown hK.1 hP 8 rfl rfl 2 (by decide) hh3 (fun _ h9 => h9) rfl dX4_copyFrom_18 ?_
  refine va_put (D := D) (ci := 4) (v := .int u_rules) (ty := .int) (C := RX4) (T := TX4) (N := 11) hx hb hts hh0 tyX4 tyX4_ok nmX4 hown hK.1 hP hD hS 0 rfl rfl 2 (by decide) hh3 (fun _ h9 => h9) rfl (by decide +kernel) rfl rfl (Nat.le_of_ble_eq_true rfl) dX4_copyFrom_21 (fun H locs hP hD hS => ?_)
  replace hP : va_P D vwCl (wX4 g aT u_conditions u_cases u_rules t_defaultAction t_sizes t_strides t_costs t_weights t_sets t_actions t_rulesWith ++ (wX4 g aU u_conditions u_cases u_rules u_defaultAction u_sizes u_strides u_costs u_weights u_sets u_actions u_rulesWith)) H := hP
  replace hD : va_D (va_A (wX4 g aT t_conditions t_cases t_rules t_defaultAction t_sizes t_strides t_costs t_weights t_sets t_actions t_rulesWith ++ (wX4 g aU u_conditions u_cases u_rules u_defaultAction u_sizes u_strides u_costs u_weights u_sets u_actions u_rulesWith)) s.heap.size) (wX4 g aT u_conditions u_cases u_rules t_defaultAction t_sizes t_strides t_costs t_weights t_sets t_actions t_rulesWith ++ (wX4 g aU u_conditions u_cases u_rules u_defaultAction u_sizes u_strides u_costs u_weights u_sets u_actions u_rulesWith)) := hD
  refine lv_aload_n hx hb dX4_copyFrom_24 rfl (lv_at hl 0 rfl) ?_
  refine lv_aload_n hx hb dX4_copyFrom_25 rfl (lv_at hl 1 rfl) ?_
  refine va_get (D := D) (ci := 4) (v := .int u_defaultAction) (C := RX4) (T := TX4) (N := 11) hx hb hts hh0 hown hK.1 hP 8 rfl rfl 3 (by decide) hh4 (fun _ h9 => h9) rfl dX4_copyFrom_26 ?_
  refine va_put (D := D) (ci := 4) (v := .int u_defaultAction) (ty := .int) (C := RX4) (T := TX4) (N := 11) hx hb hts hh0 tyX4 tyX4_ok nmX4 hown hK.1 hP hD hS 0 rfl rfl 3 (by decide) hh4 (fun _ h9 => h9) rfl (by decide +kernel) rfl rfl (Nat.le_of_ble_eq_true rfl) dX4_copyFrom_29 (fun H locs hP hD hS => ?_)
  replace hP : va_P D vwCl (wX4 g aT u_conditions u_cases u_rules u_defaultAction t_sizes t_strides t_costs t_weights t_sets t_actions t_rulesWith ++ (wX4 g aU u_conditions u_cases u_rules u_defaultAction u_sizes u_strides u_costs u_weights u_sets u_actions u_rulesWith)) H := hP
  replace hD : va_D (va_A (wX4 g aT t_conditions t_cases t_rules t_defaultAction t_sizes t_strides t_costs t_weights t_sets t_actions t_rulesWith ++ (wX4 g aU u_conditions u_cases u_rules u_defaultAction u_sizes u_strides u_costs u_weights u_sets u_actions u_rulesWith)) s.heap.size) (wX4 g aT u_conditions u_cases u_rules u_defaultAction t_sizes t_strides t_costs t_weights t_sets t_actions t_rulesWith ++ (wX4 g aU u_conditions u_cases u_rules u_defaultAction u_sizes u_strides u_costs u_weights u_sets u_actions u_rulesWith)) := hD
  refine lv_aload_n hx hb dX4_copyFrom_32 rfl (lv_at hl 1 rfl) ?_
  refine va_get (D := D) (ci := 4) (v := .ref (aU 1)) (C := RX4) (T := TX4) (N := 11) hx hb hts hh0 hown hK.1 hP 8 rfl rfl 4 (by decide) hh5 (fun _ h9 => h9) rfl dX4_copyFrom_33 ?_
  refine lv_iconst (v := 0) hx hb dX4_copyFrom_36 (by decide) ?_
  refine lv_aload_n hx hb dX4_copyFrom_37 rfl (lv_at hl 0 rfl) ?_
  refine va_get (D := D) (ci := 4) (v := .ref (aT 1)) (C := RX4) (T := TX4) (N := 11) hx hb hts hh0 hown hK.1 hP 0 rfl rfl 4 (by decide) hh5 (fun _ h9 => h9) rfl dX4_copyFrom_38 ?_
  refine lv_iconst (v := 0) hx hb dX4_copyFrom_41 (by decide) ?_
  refine lv_iconst (v := 4) hx hb dX4_copyFrom_42 (by decide) ?_
  obtain ⟨hc43, h⟩ := cp_s h
  refine va_copyi hx hb (hml.trans hl.1.symm) hown hh6 hh7 hh8 hh9 hK.1 hP hD hS 9 1 0 0 rfl rfl rfl rfl rfl hc43.1 hc43.2.1 hc43.2.2.1 hc43.2.2.2.1 hc43.2.2.2.2 (fun _ _ => rfl) (Nat.le_of_ble_eq_true rfl) (Nat.le_of_ble_eq_true rfl) dX4_copyFrom_43 (fun H locs hP hD hS => ?_)
  replace hP : va_P D vwCl (wX4 g aT u_conditions u_cases u_rules u_defaultAction (va_cpy u_sizes t_sizes (0 : Int32).toNatClampNeg (0 : Int32).toNatClampNeg (4 : Int32).toNatClampNeg) t_strides t_costs t_weights t_sets t_actions t_rulesWith ++ (wX4 g aU u_conditions u_cases u_rules u_defaultAction u_sizes u_strides u_costs u_weights u_sets u_actions u_rulesWith)) H := hP
  replace hD : va_D (va_A (wX4 g aT t_conditions t_cases t_rules t_defaultAction t_sizes t_strides t_costs t_weights t_sets t_actions t_rulesWith ++ (wX4 g aU u_conditions u_cases u_rules u_defaultAction u_sizes u_strides u_costs u_weights u_sets u_actions u_rulesWith)) s.heap.size) (wX4 g aT u_conditions u_cases u_rules u_defaultAction (va_cpy u_sizes t_sizes (0 : Int32).toNatClampNeg (0 : Int32).toNatClampNeg (4 : Int32).toNatClampNeg) t_strides t_costs t_weights t_sets t_actions t_rulesWith ++ (wX4 g aU u_conditions u_cases u_rules u_defaultAction u_sizes u_strides u_costs u_weights u_sets u_actions u_rulesWith)) := hD
  refine lv_aload_n hx hb dX4_copyFrom_46 rfl (lv_at hl 1 rfl) ?_
  refine va_get (D := D) (ci := 4) (v := .ref (aU 2)) (C := RX4) (T := TX4) (N := 11) hx hb hts hh0 hown hK.1 hP 8 rfl rfl 5 (by decide) hh10 (fun _ h9 => h9) rfl dX4_copyFrom_47 ?_
  refine lv_iconst (v := 0) hx hb dX4_copyFrom_50 (by decide) ?_
  refine lv_aload_n hx hb dX4_copyFrom_51 rfl (lv_at hl 0 rfl) ?_
  refine va_get (D := D) (ci := 4) (v := .ref (aT 2)) (C := RX4) (T := TX4) (N := 11) hx hb hts hh0 hown hK.1 hP 0 rfl rfl 5 (by decide) hh10 (fun _ h9 => h9) rfl dX4_copyFrom_52 ?_
  refine lv_iconst (v := 0) hx hb dX4_copyFrom_55 (by decide) ?_
  refine lv_iconst (v := 4) hx hb dX4_copyFrom_56 (by decide) ?_
  obtain ⟨hc57, h⟩ := cp_s h
  refine va_copyi hx hb (hml.trans hl.1.symm) hown hh6 hh7 hh8 hh9 hK.1 hP hD hS 10 2 0 0 rfl rfl rfl rfl rfl hc57.1 hc57.2.1 hc57.2.2.1 hc57.2.2.2.1 hc57.2.2.2.2 (fun _ _ => rfl) (Nat.le_of_ble_eq_true rfl) (Nat.le_of_ble_eq_true rfl) dX4_copyFrom_57 (fun H locs hP hD hS => ?_)
  replace hP : va_P D vwCl (wX4 g aT u_conditions u_cases u_rules u_defaultAction (va_cpy u_sizes t_sizes (0 : Int32).toNatClampNeg (0 : Int32).toNatClampNeg (4 : Int32).toNatClampNeg) (va_cpy u_strides t_strides (0 : Int32).toNatClampNeg (0 : Int32).toNatClampNeg (4 : Int32).toNatClampNeg) t_costs t_weights t_sets t_actions t_rulesWith ++ (wX4 g aU u_conditions u_cases u_rules u_defaultAction u_sizes u_strides u_costs u_weights u_sets u_actions u_rulesWith)) H := hP
  replace hD : va_D (va_A (wX4 g aT t_conditions t_cases t_rules t_defaultAction t_sizes t_strides t_costs t_weights t_sets t_actions t_rulesWith ++ (wX4 g aU u_conditions u_cases u_rules u_defaultAction u_sizes u_strides u_costs u_weights u_sets u_actions u_rulesWith)) s.heap.size) (wX4 g aT u_conditions u_cases u_rules u_defaultAction (va_cpy u_sizes t_sizes (0 : Int32).toNatClampNeg (0 : Int32).toNatClampNeg (4 : Int32).toNatClampNeg) (va_cpy u_strides t_strides (0 : Int32).toNatClampNeg (0 : Int32).toNatClampNeg (4 : Int32).toNatClampNeg) t_costs t_weights t_sets t_actions t_rulesWith ++ (wX4 g aU u_conditions u_cases u_rules u_defaultAction u_sizes u_strides u_costs u_weights u_sets u_actions u_rulesWith)) := hD
  refine lv_aload_n hx hb dX4_copyFrom_60 rfl (lv_at hl 1 rfl) ?_
  refine va_get (D := D) (ci := 4) (v := .ref (aU 3)) (C := RX4) (T := TX4) (N := 11) hx hb hts hh0 hown hK.1 hP 8 rfl rfl 6 (by decide) hh11 (fun _ h9 => h9) rfl dX4_copyFrom_61 ?_
  refine lv_iconst (v := 0) hx hb dX4_copyFrom_64 (by decide) ?_
  refine lv_aload_n hx hb dX4_copyFrom_65 rfl (lv_at hl 0 rfl) ?_
  refine va_get (D := D) (ci := 4) (v := .ref (aT 3)) (C := RX4) (T := TX4) (N := 11) hx hb hts hh0 hown hK.1 hP 0 rfl rfl 6 (by decide) hh11 (fun _ h9 => h9) rfl dX4_copyFrom_66 ?_
  refine lv_iconst (v := 0) hx hb dX4_copyFrom_69 (by decide) ?_
  refine lv_iconst (v := 4) hx hb dX4_copyFrom_70 (by decide) ?_
  obtain ⟨hc71, h⟩ := cp_s h
  refine va_copyi hx hb (hml.trans hl.1.symm) hown hh6 hh7 hh8 hh9 hK.1 hP hD hS 11 3 0 0 rfl rfl rfl rfl rfl hc71.1 hc71.2.1 hc71.2.2.1 hc71.2.2.2.1 hc71.2.2.2.2 (fun _ _ => rfl) (Nat.le_of_ble_eq_true rfl) (Nat.le_of_ble_eq_true rfl) dX4_copyFrom_71 (fun H locs hP hD hS => ?_)
  replace hP : va_P D vwCl (wX4 g aT u_conditions u_cases u_rules u_defaultAction (va_cpy u_sizes t_sizes (0 : Int32).toNatClampNeg (0 : Int32).toNatClampNeg (4 : Int32).toNatClampNeg) (va_cpy u_strides t_strides (0 : Int32).toNatClampNeg (0 : Int32).toNatClampNeg (4 : Int32).toNatClampNeg) (va_cpy u_costs t_costs (0 : Int32).toNatClampNeg (0 : Int32).toNatClampNeg (4 : Int32).toNatClampNeg) t_weights t_sets t_actions t_rulesWith ++ (wX4 g aU u_conditions u_cases u_rules u_defaultAction u_sizes u_strides u_costs u_weights u_sets u_actions u_rulesWith)) H := hP
  replace hD : va_D (va_A (wX4 g aT t_conditions t_cases t_rules t_defaultAction t_sizes t_strides t_costs t_weights t_sets t_actions t_rulesWith ++ (wX4 g aU u_conditions u_cases u_rules u_defaultAction u_sizes u_strides u_costs u_weights u_sets u_actions u_rulesWith)) s.heap.size) (wX4 g aT u_conditions u_cases u_rules u_defaultAction (va_cpy u_sizes t_sizes (0 : Int32).toNatClampNeg (0 : Int32).toNatClampNeg (4 : Int32).toNatClampNeg) (va_cpy u_strides t_strides (0 : Int32).toNatClampNeg (0 : Int32).toNatClampNeg (4 : Int32).toNatClampNeg) (va_cpy u_costs t_costs (0 : Int32).toNatClampNeg (0 : Int32).toNatClampNeg (4 : Int32).toNatClampNeg) t_weights t_sets t_actions t_rulesWith ++ (wX4 g aU u_conditions u_cases u_rules u_defaultAction u_sizes u_strides u_costs u_weights u_sets u_actions u_rulesWith)) := hD
  refine lv_aload_n hx hb dX4_copyFrom_74 rfl (lv_at hl 1 rfl) ?_
  refine va_get (D := D) (ci := 4) (v := .ref (aU 4)) (C := RX4) (T := TX4) (N := 11) hx hb hts hh0 hown hK.1 hP 8 rfl rfl 7 (by decide) hh12 (fun _ h9 => h9) rfl dX4_copyFrom_75 ?_
  refine lv_iconst (v := 0) hx hb dX4_copyFrom_78 (by decide) ?_
  refine lv_aload_n hx hb dX4_copyFrom_79 rfl (lv_at hl 0 rfl) ?_
  refine va_get (D := D) (ci := 4) (v := .ref (aT 4)) (C := RX4) (T := TX4) (N := 11) hx hb hts hh0 hown hK.1 hP 0 rfl rfl 7 (by decide) hh12 (fun _ h9 => h9) rfl dX4_copyFrom_80 ?_
  refine lv_iconst (v := 0) hx hb dX4_copyFrom_83 (by decide) ?_
  refine lv_bipush (v := 20) hx hb dX4_copyFrom_84 (by decide) ?_
  obtain ⟨hc86, h⟩ := cp_s h
  refine va_copyi hx hb (hml.trans hl.1.symm) hown hh6 hh7 hh8 hh9 hK.1 hP hD hS 12 4 0 0 rfl rfl rfl rfl rfl hc86.1 hc86.2.1 hc86.2.2.1 hc86.2.2.2.1 hc86.2.2.2.2 (fun _ _ => rfl) (Nat.le_of_ble_eq_true rfl) (Nat.le_of_ble_eq_true rfl) dX4_copyFrom_86 (fun H locs hP hD hS => ?_)
  replace hP : va_P D vwCl (wX4 g aT u_conditions u_cases u_rules u_defaultAction (va_cpy u_sizes t_sizes (0 : Int32).toNatClampNeg (0 : Int32).toNatClampNeg (4 : Int32).toNatClampNeg) (va_cpy u_strides t_strides (0 : Int32).toNatClampNeg (0 : Int32).toNatClampNeg (4 : Int32).toNatClampNeg) (va_cpy u_costs t_costs (0 : Int32).toNatClampNeg (0 : Int32).toNatClampNeg (4 : Int32).toNatClampNeg) (va_cpy u_weights t_weights (0 : Int32).toNatClampNeg (0 : Int32).toNatClampNeg (20 : Int32).toNatClampNeg) t_sets t_actions t_rulesWith ++ (wX4 g aU u_conditions u_cases u_rules u_defaultAction u_sizes u_strides u_costs u_weights u_sets u_actions u_rulesWith)) H := hP
  replace hD : va_D (va_A (wX4 g aT t_conditions t_cases t_rules t_defaultAction t_sizes t_strides t_costs t_weights t_sets t_actions t_rulesWith ++ (wX4 g aU u_conditions u_cases u_rules u_defaultAction u_sizes u_strides u_costs u_weights u_sets u_actions u_rulesWith)) s.heap.size) (wX4 g aT u_conditions u_cases u_rules u_defaultAction (va_cpy u_sizes t_sizes (0 : Int32).toNatClampNeg (0 : Int32).toNatClampNeg (4 : Int32).toNatClampNeg) (va_cpy u_strides t_strides (0 : Int32).toNatClampNeg (0 : Int32).toNatClampNeg (4 : Int32).toNatClampNeg) (va_cpy u_costs t_costs (0 : Int32).toNatClampNeg (0 : Int32).toNatClampNeg (4 : Int32).toNatClampNeg) (va_cpy u_weights t_weights (0 : Int32).toNatClampNeg (0 : Int32).toNatClampNeg (20 : Int32).toNatClampNeg) t_sets t_actions t_rulesWith ++ (wX4 g aU u_conditions u_cases u_rules u_defaultAction u_sizes u_strides u_costs u_weights u_sets u_actions u_rulesWith)) := hD
  refine lv_aload_n hx hb dX4_copyFrom_89 rfl (lv_at hl 1 rfl) ?_
  refine va_get (D := D) (ci := 4) (v := .ref (aU 5)) (C := RX4) (T := TX4) (N := 11) hx hb hts hh0 hown hK.1 hP 8 rfl rfl 8 (by decide) hh13 (fun _ h9 => h9) rfl dX4_copyFrom_90 ?_
  refine lv_iconst (v := 0) hx hb dX4_copyFrom_93 (by decide) ?_
  refine lv_aload_n hx hb dX4_copyFrom_94 rfl (lv_at hl 0 rfl) ?_
  refine va_get (D := D) (ci := 4) (v := .ref (aT 5)) (C := RX4) (T := TX4) (N := 11) hx hb hts hh0 hown hK.1 hP 0 rfl rfl 8 (by decide) hh13 (fun _ h9 => h9) rfl dX4_copyFrom_95 ?_
  refine lv_iconst (v := 0) hx hb dX4_copyFrom_98 (by decide) ?_
  refine lv_bipush (v := 48) hx hb dX4_copyFrom_99 (by decide) ?_
  obtain ⟨hc101, h⟩ := cp_s h
  refine va_copyi hx hb (hml.trans hl.1.symm) hown hh6 hh7 hh8 hh9 hK.1 hP hD hS 13 5 0 0 rfl rfl rfl rfl rfl hc101.1 hc101.2.1 hc101.2.2.1 hc101.2.2.2.1 hc101.2.2.2.2 (fun _ _ => rfl) (Nat.le_of_ble_eq_true rfl) (Nat.le_of_ble_eq_true rfl) dX4_copyFrom_101 (fun H locs hP hD hS => ?_)
  replace hP : va_P D vwCl (wX4 g aT u_conditions u_cases u_rules u_defaultAction (va_cpy u_sizes t_sizes (0 : Int32).toNatClampNeg (0 : Int32).toNatClampNeg (4 : Int32).toNatClampNeg) (va_cpy u_strides t_strides (0 : Int32).toNatClampNeg (0 : Int32).toNatClampNeg (4 : Int32).toNatClampNeg) (va_cpy u_costs t_costs (0 : Int32).toNatClampNeg (0 : Int32).toNatClampNeg (4 : Int32).toNatClampNeg) (va_cpy u_weights t_weights (0 : Int32).toNatClampNeg (0 : Int32).toNatClampNeg (20 : Int32).toNatClampNeg) (va_cpy u_sets t_sets (0 : Int32).toNatClampNeg (0 : Int32).toNatClampNeg (48 : Int32).toNatClampNeg) t_actions t_rulesWith ++ (wX4 g aU u_conditions u_cases u_rules u_defaultAction u_sizes u_strides u_costs u_weights u_sets u_actions u_rulesWith)) H := hP
  replace hD : va_D (va_A (wX4 g aT t_conditions t_cases t_rules t_defaultAction t_sizes t_strides t_costs t_weights t_sets t_actions t_rulesWith ++ (wX4 g aU u_conditions u_cases u_rules u_defaultAction u_sizes u_strides u_costs u_weights u_sets u_actions u_rulesWith)) s.heap.size) (wX4 g aT u_conditions u_cases u_rules u_defaultAction (va_cpy u_sizes t_sizes (0 : Int32).toNatClampNeg (0 : Int32).toNatClampNeg (4 : Int32).toNatClampNeg) (va_cpy u_strides t_strides (0 : Int32).toNatClampNeg (0 : Int32).toNatClampNeg (4 : Int32).toNatClampNeg) (va_cpy u_costs t_costs (0 : Int32).toNatClampNeg (0 : Int32).toNatClampNeg (4 : Int32).toNatClampNeg) (va_cpy u_weights t_weights (0 : Int32).toNatClampNeg (0 : Int32).toNatClampNeg (20 : Int32).toNatClampNeg) (va_cpy u_sets t_sets (0 : Int32).toNatClampNeg (0 : Int32).toNatClampNeg (48 : Int32).toNatClampNeg) t_actions t_rulesWith ++ (wX4 g aU u_conditions u_cases u_rules u_defaultAction u_sizes u_strides u_costs u_weights u_sets u_actions u_rulesWith)) := hD
  refine lv_aload_n hx hb dX4_copyFrom_104 rfl (lv_at hl 1 rfl) ?_
  refine va_get (D := D) (ci := 4) (v := .ref (aU 6)) (C := RX4) (T := TX4) (N := 11) hx hb hts hh0 hown hK.1 hP 8 rfl rfl 9 (by decide) hh14 (fun _ h9 => h9) rfl dX4_copyFrom_105 ?_
  refine lv_iconst (v := 0) hx hb dX4_copyFrom_108 (by decide) ?_
  refine lv_aload_n hx hb dX4_copyFrom_109 rfl (lv_at hl 0 rfl) ?_
  refine va_get (D := D) (ci := 4) (v := .ref (aT 6)) (C := RX4) (T := TX4) (N := 11) hx hb hts hh0 hown hK.1 hP 0 rfl rfl 9 (by decide) hh14 (fun _ h9 => h9) rfl dX4_copyFrom_110 ?_
  refine lv_iconst (v := 0) hx hb dX4_copyFrom_113 (by decide) ?_
  refine lv_bipush (v := 12) hx hb dX4_copyFrom_114 (by decide) ?_
  obtain ⟨hc116, h⟩ := cp_s h
  refine va_copyi hx hb (hml.trans hl.1.symm) hown hh6 hh7 hh8 hh9 hK.1 hP hD hS 14 6 0 0 rfl rfl rfl rfl rfl hc116.1 hc116.2.1 hc116.2.2.1 hc116.2.2.2.1 hc116.2.2.2.2 (fun _ _ => rfl) (Nat.le_of_ble_eq_true rfl) (Nat.le_of_ble_eq_true rfl) dX4_copyFrom_116 (fun H locs hP hD hS => ?_)
  replace hP : va_P D vwCl (wX4 g aT u_conditions u_cases u_rules u_defaultAction (va_cpy u_sizes t_sizes (0 : Int32).toNatClampNeg (0 : Int32).toNatClampNeg (4 : Int32).toNatClampNeg) (va_cpy u_strides t_strides (0 : Int32).toNatClampNeg (0 : Int32).toNatClampNeg (4 : Int32).toNatClampNeg) (va_cpy u_costs t_costs (0 : Int32).toNatClampNeg (0 : Int32).toNatClampNeg (4 : Int32).toNatClampNeg) (va_cpy u_weights t_weights (0 : Int32).toNatClampNeg (0 : Int32).toNatClampNeg (20 : Int32).toNatClampNeg) (va_cpy u_sets t_sets (0 : Int32).toNatClampNeg (0 : Int32).toNatClampNeg (48 : Int32).toNatClampNeg) (va_cpy u_actions t_actions (0 : Int32).toNatClampNeg (0 : Int32).toNatClampNeg (12 : Int32).toNatClampNeg) t_rulesWith ++ (wX4 g aU u_conditions u_cases u_rules u_defaultAction u_sizes u_strides u_costs u_weights u_sets u_actions u_rulesWith)) H := hP
  replace hD : va_D (va_A (wX4 g aT t_conditions t_cases t_rules t_defaultAction t_sizes t_strides t_costs t_weights t_sets t_actions t_rulesWith ++ (wX4 g aU u_conditions u_cases u_rules u_defaultAction u_sizes u_strides u_costs u_weights u_sets u_actions u_rulesWith)) s.heap.size) (wX4 g aT u_conditions u_cases u_rules u_defaultAction (va_cpy u_sizes t_sizes (0 : Int32).toNatClampNeg (0 : Int32).toNatClampNeg (4 : Int32).toNatClampNeg) (va_cpy u_strides t_strides (0 : Int32).toNatClampNeg (0 : Int32).toNatClampNeg (4 : Int32).toNatClampNeg) (va_cpy u_costs t_costs (0 : Int32).toNatClampNeg (0 : Int32).toNatClampNeg (4 : Int32).toNatClampNeg) (va_cpy u_weights t_weights (0 : Int32).toNatClampNeg (0 : Int32).toNatClampNeg (20 : Int32).toNatClampNeg) (va_cpy u_sets t_sets (0 : Int32).toNatClampNeg (0 : Int32).toNatClampNeg (48 : Int32).toNatClampNeg) (va_cpy u_actions t_actions (0 : Int32).toNatClampNeg (0 : Int32).toNatClampNeg (12 : Int32).toNatClampNeg) t_rulesWith ++ (wX4 g aU u_conditions u_cases u_rules u_defaultAction u_sizes u_strides u_costs u_weights u_sets u_actions u_rulesWith)) := hD
  refine lv_aload_n hx hb dX4_copyFrom_119 rfl (lv_at hl 1 rfl) ?_
  refine va_get (D := D) (ci := 4) (v := .ref (aU 7)) (C := RX4) (T := TX4) (N := 11) hx hb hts hh0 hown hK.1 hP 8 rfl rfl 10 (by decide) hh15 (fun _ h9 => h9) rfl dX4_copyFrom_120 ?_
  refine lv_iconst (v := 0) hx hb dX4_copyFrom_123 (by decide) ?_
  refine lv_aload_n hx hb dX4_copyFrom_124 rfl (lv_at hl 0 rfl) ?_
  refine va_get (D := D) (ci := 4) (v := .ref (aT 7)) (C := RX4) (T := TX4) (N := 11) hx hb hts hh0 hown hK.1 hP 0 rfl rfl 10 (by decide) hh15 (fun _ h9 => h9) rfl dX4_copyFrom_125 ?_
  refine lv_iconst (v := 0) hx hb dX4_copyFrom_128 (by decide) ?_
  refine lv_bipush (v := 20) hx hb dX4_copyFrom_129 (by decide) ?_
  obtain ⟨hc131, h⟩ := cp_s h
  refine va_copyi hx hb (hml.trans hl.1.symm) hown hh6 hh7 hh8 hh9 hK.1 hP hD hS 15 7 0 0 rfl rfl rfl rfl rfl hc131.1 hc131.2.1 hc131.2.2.1 hc131.2.2.2.1 hc131.2.2.2.2 (fun _ _ => rfl) (Nat.le_of_ble_eq_true rfl) (Nat.le_of_ble_eq_true rfl) dX4_copyFrom_131 (fun H locs hP hD hS => ?_)
  replace hP : va_P D vwCl (wX4 g aT u_conditions u_cases u_rules u_defaultAction (va_cpy u_sizes t_sizes (0 : Int32).toNatClampNeg (0 : Int32).toNatClampNeg (4 : Int32).toNatClampNeg) (va_cpy u_strides t_strides (0 : Int32).toNatClampNeg (0 : Int32).toNatClampNeg (4 : Int32).toNatClampNeg) (va_cpy u_costs t_costs (0 : Int32).toNatClampNeg (0 : Int32).toNatClampNeg (4 : Int32).toNatClampNeg) (va_cpy u_weights t_weights (0 : Int32).toNatClampNeg (0 : Int32).toNatClampNeg (20 : Int32).toNatClampNeg) (va_cpy u_sets t_sets (0 : Int32).toNatClampNeg (0 : Int32).toNatClampNeg (48 : Int32).toNatClampNeg) (va_cpy u_actions t_actions (0 : Int32).toNatClampNeg (0 : Int32).toNatClampNeg (12 : Int32).toNatClampNeg) (va_cpy u_rulesWith t_rulesWith (0 : Int32).toNatClampNeg (0 : Int32).toNatClampNeg (20 : Int32).toNatClampNeg) ++ (wX4 g aU u_conditions u_cases u_rules u_defaultAction u_sizes u_strides u_costs u_weights u_sets u_actions u_rulesWith)) H := hP
  replace hD : va_D (va_A (wX4 g aT t_conditions t_cases t_rules t_defaultAction t_sizes t_strides t_costs t_weights t_sets t_actions t_rulesWith ++ (wX4 g aU u_conditions u_cases u_rules u_defaultAction u_sizes u_strides u_costs u_weights u_sets u_actions u_rulesWith)) s.heap.size) (wX4 g aT u_conditions u_cases u_rules u_defaultAction (va_cpy u_sizes t_sizes (0 : Int32).toNatClampNeg (0 : Int32).toNatClampNeg (4 : Int32).toNatClampNeg) (va_cpy u_strides t_strides (0 : Int32).toNatClampNeg (0 : Int32).toNatClampNeg (4 : Int32).toNatClampNeg) (va_cpy u_costs t_costs (0 : Int32).toNatClampNeg (0 : Int32).toNatClampNeg (4 : Int32).toNatClampNeg) (va_cpy u_weights t_weights (0 : Int32).toNatClampNeg (0 : Int32).toNatClampNeg (20 : Int32).toNatClampNeg) (va_cpy u_sets t_sets (0 : Int32).toNatClampNeg (0 : Int32).toNatClampNeg (48 : Int32).toNatClampNeg) (va_cpy u_actions t_actions (0 : Int32).toNatClampNeg (0 : Int32).toNatClampNeg (12 : Int32).toNatClampNeg) (va_cpy u_rulesWith t_rulesWith (0 : Int32).toNatClampNeg (0 : Int32).toNatClampNeg (20 : Int32).toNatClampNeg) ++ (wX4 g aU u_conditions u_cases u_rules u_defaultAction u_sizes u_strides u_costs u_weights u_sets u_actions u_rulesWith)) := hD
  replace h := Option.some.inj h
  have hj0 := (Prod.mk.inj h).1
  have hg0 := (Prod.mk.inj h).2
  have hj1 := (Prod.mk.inj hg0).1
  have hg1 := (Prod.mk.inj hg0).2
  have hj2 := (Prod.mk.inj hg1).1
  have hg2 := (Prod.mk.inj hg1).2
  have hj3 := (Prod.mk.inj hg2).1
  have hg3 := (Prod.mk.inj hg2).2
  have hj4 := (Prod.mk.inj hg3).1
  have hg4 := (Prod.mk.inj hg3).2
  have hj5 := (Prod.mk.inj hg4).1
  have hg5 := (Prod.mk.inj hg4).2
  have hj6 := (Prod.mk.inj hg5).1
  have hg6 := (Prod.mk.inj hg5).2
  have hj7 := (Prod.mk.inj hg6).1
  have hg7 := (Prod.mk.inj hg6).2
  have hj8 := (Prod.mk.inj hg7).1
  have hg8 := (Prod.mk.inj hg7).2
  have hj9 := (Prod.mk.inj hg8).1
  have hg9 := (Prod.mk.inj hg8).2
  clear hg0
  clear hg1
  clear hg2
  clear hg3
  clear hg4
  clear hg5
  clear hg6
  clear hg7
  clear hg8
  subst hj0
  subst hj1
  subst hj2
  subst hj3
  subst hj4
  subst hj5
  subst hj6
  subst hj7
  subst hj8
  subst hj9
  subst hg9
  exact W.vret hx hb hr (fun t ht hW => ⟨⟨(), rfl, trivial, by rw [ht]; exact hP, hD⟩, hS.F ht⟩) hS.2.2 dX4_copyFrom_134
theorem pd_X4_hasCase : yX4_hasCase.cls ≠ "java/lang/invoke/MethodHandle" ∧ yX4_hasCase.cls ≠ "java/lang/invoke/VarHandle" ∧ (parseMethodDescriptor yX4_hasCase.desc).map (fun d => d.parameters.length) = some 1 := by decide +kernel
def f_X4_hasCase (t_cases : Int32) (x1 : Int32) : Option (Bool) :=
  (if x1 < (0 : Int32) then (some false) else (if t_cases ≤ x1 then (some false) else (some true)))
set_option maxHeartbeats 4000000 in
set_option maxRecDepth 100000 in
theorem c_X4_hasCase (l : Launch) (D : va_G) (g : Nat → ClassId) (aT : Nat → Nat) (t_conditions : Int32) (t_cases : Int32) (t_rules : Int32) (t_defaultAction : Int32) (t_sizes : Nat → Int32) (t_strides : Nat → Int32) (t_costs : Nat → Int32) (t_weights : Nat → Int32) (t_sets : Nat → Int32) (t_actions : Nat → Int32) (t_rulesWith : Nat → Int32) (x1 : Int32) (r : Bool) (hf : f_X4_hasCase t_cases x1 = some r) : CR l yX4_hasCase wsX4_hasCase 0 0 D g [.ref (aT 0), .int x1] (wX4 g aT t_conditions t_cases t_rules t_defaultAction t_sizes t_strides t_costs t_weights t_sets t_actions t_rulesWith) (QRi (bI r)) := by
  refine Met.ofW (cc := cX4_hasCase) (maxL := 2) (ret := (some .boolean)) (by decide) rfl ?_
  intro p e s m args below meth c s₁ B hml hv
  obtain ⟨rfl, hP, hK⟩ := hv
  have hx := B.exec
  have hb := B.bytes
  have hr := B.returns
  have hts := atoms_spec (ws := wsX4_hasCase) B.pre
  have hown : s.vm.findClass RX4 = some m.cls := findClass_of_methodNamed B.named
  have hlocks := B.notSynchronized
  have hh0 := (show ∀ w ∈ wsX40, w ∈ wsX4_hasCase from by decide +kernel)
  have hh1 := hts (.fieldLink RX4 37 "DecisionTableCompiler$Table" "cases" "I") (by decide +kernel)
  have hl := lv_entry ([.ref (aT 0), .int x1]) (n := 2) (Nat.le_of_ble_eq_true rfl)
  rw [lg_entry_eq]
  generalize (lg_sl ([.ref (aT 0), .int x1]) ++ List.replicate (2 - (lg_sl ([.ref (aT 0), .int x1])).length) Slot.unset).toArray = ls at hl ⊢
  replace hl : lv_has ls 2 [(0, .ref (aT 0)), (1, .int x1)] := hl
  have h := hf
  unfold f_X4_hasCase at h
  refine lv_iload_n hx hb dX4_hasCase_0 rfl (lv_at hl 1 rfl) ?_
  refine lv_if_lt (tgt := 16) hx hb dX4_hasCase_1 (by decide) (fun c1 => ?_) (fun c1 => ?_)
  · replace h := ite_t c1 h
    refine lv_iconst (v := 0) hx hb dX4_hasCase_16 (by decide) ?_
    replace h := Option.some.inj h
    subst h
    exact W.zret hx hb hr rfl (fun t ht hW => ⟨_, rfl, rfl, ht⟩) (fun q hq => by cases hq) dX4_hasCase_17
  · replace h := ite_f c1 h
    refine lv_iload_n hx hb dX4_hasCase_4 rfl (lv_at hl 1 rfl) ?_
    refine lv_aload_n hx hb dX4_hasCase_5 rfl (lv_at hl 0 rfl) ?_
    refine va_get (D := D) (ci := 4) (v := .int t_cases) (C := RX4) (T := TX4) (N := 11) hx hb hts hh0 hown hK.1 hP 0 rfl rfl 1 (by decide) hh1 (fun _ h9 => h9) rfl dX4_hasCase_6 ?_
    refine lv_icmp_ge (tgt := 16) hx hb dX4_hasCase_9 (by decide) (fun c9 => ?_) (fun c9 => ?_)
    · replace h := ite_t c9 h
      refine lv_iconst (v := 0) hx hb dX4_hasCase_16 (by decide) ?_
      replace h := Option.some.inj h
      subst h
      exact W.zret hx hb hr rfl (fun t ht hW => ⟨_, rfl, rfl, ht⟩) (fun q hq => by cases hq) dX4_hasCase_17
    · replace h := ite_f c9 h
      refine lv_iconst (v := 1) hx hb dX4_hasCase_12 (by decide) ?_
      refine lv_goto (tgt := 17) hx hb dX4_hasCase_13 (by decide) ?_
      replace h := Option.some.inj h
      subst h
      exact W.zret hx hb hr rfl (fun t ht hW => ⟨_, rfl, rfl, ht⟩) (fun q hq => by cases hq) dX4_hasCase_17
theorem pd_X4_hasRule : yX4_hasRule.cls ≠ "java/lang/invoke/MethodHandle" ∧ yX4_hasRule.cls ≠ "java/lang/invoke/VarHandle" ∧ (parseMethodDescriptor yX4_hasRule.desc).map (fun d => d.parameters.length) = some 1 := by decide +kernel
def f_X4_hasRule (t_rules : Int32) (x1 : Int32) : Option (Bool) :=
  (if x1 < (0 : Int32) then (some false) else (if t_rules ≤ x1 then (some false) else (some true)))
set_option maxHeartbeats 4000000 in
set_option maxRecDepth 100000 in
theorem c_X4_hasRule (l : Launch) (D : va_G) (g : Nat → ClassId) (aT : Nat → Nat) (t_conditions : Int32) (t_cases : Int32) (t_rules : Int32) (t_defaultAction : Int32) (t_sizes : Nat → Int32) (t_strides : Nat → Int32) (t_costs : Nat → Int32) (t_weights : Nat → Int32) (t_sets : Nat → Int32) (t_actions : Nat → Int32) (t_rulesWith : Nat → Int32) (x1 : Int32) (r : Bool) (hf : f_X4_hasRule t_rules x1 = some r) : CR l yX4_hasRule wsX4_hasRule 0 0 D g [.ref (aT 0), .int x1] (wX4 g aT t_conditions t_cases t_rules t_defaultAction t_sizes t_strides t_costs t_weights t_sets t_actions t_rulesWith) (QRi (bI r)) := by
  refine Met.ofW (cc := cX4_hasRule) (maxL := 2) (ret := (some .boolean)) (by decide) rfl ?_
  intro p e s m args below meth c s₁ B hml hv
  obtain ⟨rfl, hP, hK⟩ := hv
  have hx := B.exec
  have hb := B.bytes
  have hr := B.returns
  have hts := atoms_spec (ws := wsX4_hasRule) B.pre
  have hown : s.vm.findClass RX4 = some m.cls := findClass_of_methodNamed B.named
  have hlocks := B.notSynchronized
  have hh0 := (show ∀ w ∈ wsX40, w ∈ wsX4_hasRule from by decide +kernel)
  have hh1 := hts (.fieldLink RX4 40 "DecisionTableCompiler$Table" "rules" "I") (by decide +kernel)
  have hl := lv_entry ([.ref (aT 0), .int x1]) (n := 2) (Nat.le_of_ble_eq_true rfl)
  rw [lg_entry_eq]
  generalize (lg_sl ([.ref (aT 0), .int x1]) ++ List.replicate (2 - (lg_sl ([.ref (aT 0), .int x1])).length) Slot.unset).toArray = ls at hl ⊢
  replace hl : lv_has ls 2 [(0, .ref (aT 0)), (1, .int x1)] := hl
  have h := hf
  unfold f_X4_hasRule at h
  refine lv_iload_n hx hb dX4_hasRule_0 rfl (lv_at hl 1 rfl) ?_
  refine lv_if_lt (tgt := 16) hx hb dX4_hasRule_1 (by decide) (fun c1 => ?_) (fun c1 => ?_)
  · replace h := ite_t c1 h
    refine lv_iconst (v := 0) hx hb dX4_hasRule_16 (by decide) ?_
    replace h := Option.some.inj h
    subst h
    exact W.zret hx hb hr rfl (fun t ht hW => ⟨_, rfl, rfl, ht⟩) (fun q hq => by cases hq) dX4_hasRule_17
  · replace h := ite_f c1 h
    refine lv_iload_n hx hb dX4_hasRule_4 rfl (lv_at hl 1 rfl) ?_
    refine lv_aload_n hx hb dX4_hasRule_5 rfl (lv_at hl 0 rfl) ?_
    refine va_get (D := D) (ci := 4) (v := .int t_rules) (C := RX4) (T := TX4) (N := 11) hx hb hts hh0 hown hK.1 hP 0 rfl rfl 2 (by decide) hh1 (fun _ h9 => h9) rfl dX4_hasRule_6 ?_
    refine lv_icmp_ge (tgt := 16) hx hb dX4_hasRule_9 (by decide) (fun c9 => ?_) (fun c9 => ?_)
    · replace h := ite_t c9 h
      refine lv_iconst (v := 0) hx hb dX4_hasRule_16 (by decide) ?_
      replace h := Option.some.inj h
      subst h
      exact W.zret hx hb hr rfl (fun t ht hW => ⟨_, rfl, rfl, ht⟩) (fun q hq => by cases hq) dX4_hasRule_17
    · replace h := ite_f c9 h
      refine lv_iconst (v := 1) hx hb dX4_hasRule_12 (by decide) ?_
      refine lv_goto (tgt := 17) hx hb dX4_hasRule_13 (by decide) ?_
      replace h := Option.some.inj h
      subst h
      exact W.zret hx hb hr rfl (fun t ht hW => ⟨_, rfl, rfl, ht⟩) (fun q hq => by cases hq) dX4_hasRule_17
theorem pd_X4_weightSum : yX4_weightSum.cls ≠ "java/lang/invoke/MethodHandle" ∧ yX4_weightSum.cls ≠ "java/lang/invoke/VarHandle" ∧ (parseMethodDescriptor yX4_weightSum.desc).map (fun d => d.parameters.length) = some 1 := by decide +kernel
def f_X4_weightSum_s4 (t_sizes : Nat → Int32) (t_weights : Nat → Int32) (x1 : Int32) (v2_4 : Int32) (v3_4 : Int32) : Option ((Int32 × Int32) ⊕ (Int32)) :=
  (rd 4 t_sizes x1 fun z10 => (if z10 ≤ v3_4 then (some (.inr v2_4)) else (rd 20 t_weights ((x1 * (5 : Int32)) + v3_4) fun z24 => (some (.inl ((v2_4 + z24), (v3_4 + 1)))))))
def f_X4_weightSum (t_sizes : Nat → Int32) (t_weights : Nat → Int32) (x1 : Int32) : Option (Int32) :=
  (wl (fun q => f_X4_weightSum_s4 t_sizes t_weights x1 q.1 q.2) 5000 ((0 : Int32), (0 : Int32)))
set_option maxHeartbeats 4000000 in
set_option maxRecDepth 100000 in
theorem c_X4_weightSum (l : Launch) (D : va_G) (g : Nat → ClassId) (aT : Nat → Nat) (t_conditions : Int32) (t_cases : Int32) (t_rules : Int32) (t_defaultAction : Int32) (t_sizes : Nat → Int32) (t_strides : Nat → Int32) (t_costs : Nat → Int32) (t_weights : Nat → Int32) (t_sets : Nat → Int32) (t_actions : Nat → Int32) (t_rulesWith : Nat → Int32) (x1 : Int32) (r : Int32) (hf : f_X4_weightSum t_sizes t_weights x1 = some r) : CR l yX4_weightSum wsX4_weightSum 0 0 D g [.ref (aT 0), .int x1] (wX4 g aT t_conditions t_cases t_rules t_defaultAction t_sizes t_strides t_costs t_weights t_sets t_actions t_rulesWith) (QRi r) := by
  refine Met.ofW (cc := cX4_weightSum) (maxL := 4) (ret := (some .int)) (by decide) rfl ?_
  intro p e s m args below meth c s₁ B hml hv
  obtain ⟨rfl, hP, hK⟩ := hv
  have hx := B.exec
  have hb := B.bytes
  have hr := B.returns
  have hts := atoms_spec (ws := wsX4_weightSum) B.pre
  have hown : s.vm.findClass RX4 = some m.cls := findClass_of_methodNamed B.named
  have hlocks := B.notSynchronized
  have hh0 := (show ∀ w ∈ wsX40, w ∈ wsX4_weightSum from by decide +kernel)
  have hh1 := hts (.fieldLink RX4 9 "DecisionTableCompiler$Table" "sizes" "[I") (by decide +kernel)
  have hh2 := hts (.fieldLink RX4 21 "DecisionTableCompiler$Table" "weights" "[I") (by decide +kernel)
  have hl := lv_entry ([.ref (aT 0), .int x1]) (n := 4) (Nat.le_of_ble_eq_true rfl)
  rw [lg_entry_eq]
  generalize (lg_sl ([.ref (aT 0), .int x1]) ++ List.replicate (4 - (lg_sl ([.ref (aT 0), .int x1])).length) Slot.unset).toArray = ls at hl ⊢
  replace hl : lv_has ls 4 [(0, .ref (aT 0)), (1, .int x1)] := hl
  have h := hf
  unfold f_X4_weightSum at h
  refine lv_iconst (v := 0) hx hb dX4_weightSum_0 (by decide) ?_
  refine lv_istore_n (lv' := [(2, .int (0 : Int32)), (0, .ref (aT 0)), (1, .int x1)]) hx hb dX4_weightSum_1 rfl hl (by decide) rfl (fun ls hl => ?_)
  refine lv_iconst (v := 0) hx hb dX4_weightSum_2 (by decide) ?_
  refine lv_istore_n (lv' := [(3, .int (0 : Int32)), (2, .int (0 : Int32)), (0, .ref (aT 0)), (1, .int x1)]) hx hb dX4_weightSum_3 rfl hl (by decide) rfl (fun ls hl => ?_)
  have lp4 : ∀ (n : Nat) (v2_4 : Int32) (v3_4 : Int32), wl (fun q => f_X4_weightSum_s4 t_sizes t_weights x1 q.1 q.2) n (v2_4, v3_4) = some r → ∀ ls : Array Slot, lv_has ls 4 [(3, .int v3_4), (2, .int v2_4), (0, .ref (aT 0)), (1, .int x1)] → W p l e (headSpec wsX4_weightSum ({ frames := 0, cells := 0, slots := 0, locals := 0 })).room s m ([.ref (aT 0), .int x1] : List Value).toArray below meth c s.heap [] 0 0 (MQ below (QRi r) ([.ref (aT 0), .int x1] : List Value).toArray s 0 0 (fun _ => False)) (F0 m 4 ls []) := by
    intro n
    induction n with
    | zero =>
      intro v2_4 v3_4 h
      exact wl_0 h
    | succ n ih1 =>
      intro v2_4 v3_4 h ls hl
      obtain ⟨o1, h, k1⟩ := wl_s h
      replace h : f_X4_weightSum_s4 t_sizes t_weights x1 v2_4 v3_4 = some o1 := h
      unfold f_X4_weightSum_s4 at h
      refine lv_iload_n hx hb dX4_weightSum_4 rfl (lv_at hl 0 rfl) ?_
      refine lv_aload_n hx hb dX4_weightSum_5 rfl (lv_at hl 2 rfl) ?_
      refine va_get (D := D) (ci := 4) (v := .ref (aT 1)) (C := RX4) (T := TX4) (N := 11) hx hb hts hh0 hown hK.1 hP 0 rfl rfl 4 (by decide) hh1 (fun _ h9 => h9) rfl dX4_weightSum_6 ?_
      refine lv_iload_n hx hb dX4_weightSum_9 rfl (lv_at hl 3 rfl) ?_
      have iz10 := rd_in h
      refine va_iald hx hb hK.1 hP 1 0 rfl rfl (rd_in h) dX4_weightSum_10 (lv_topi (fun z10 ez10 => ?_))
      replace h := rd_k h ez10
      refine lv_icmp_ge (tgt := 33) hx hb dX4_weightSum_11 (by decide) (fun c11 => ?_) (fun c11 => ?_)
      · replace h := ite_t c11 h
        refine lv_iload_n hx hb dX4_weightSum_33 rfl (lv_at hl 1 rfl) ?_
        replace h := Option.some.inj h
        subst h
        replace h := wk_r k1
        subst h
        exact W.iret hx hb hr (fun t ht hW => ⟨_, rfl, rfl, ht⟩) (fun q hq => by cases hq) dX4_weightSum_34
      · replace h := ite_f c11 h
        refine lv_iload_n hx hb dX4_weightSum_14 rfl (lv_at hl 1 rfl) ?_
        refine lv_aload_n hx hb dX4_weightSum_15 rfl (lv_at hl 2 rfl) ?_
        refine va_get (D := D) (ci := 4) (v := .ref (aT 4)) (C := RX4) (T := TX4) (N := 11) hx hb hts hh0 hown hK.1 hP 0 rfl rfl 7 (by decide) hh2 (fun _ h9 => h9) rfl dX4_weightSum_16 ?_
        refine lv_iload_n hx hb dX4_weightSum_19 rfl (lv_at hl 3 rfl) ?_
        refine lv_iconst (v := 5) hx hb dX4_weightSum_20 (by decide) ?_
        refine lv_imul hx hb dX4_weightSum_21 ?_
        refine lv_iload_n hx hb dX4_weightSum_22 rfl (lv_at hl 0 rfl) ?_
        refine lv_iadd hx hb dX4_weightSum_23 ?_
        have iz24 := rd_in h
        refine va_iald hx hb hK.1 hP 4 0 rfl rfl (rd_in h) dX4_weightSum_24 (lv_topi (fun z24 ez24 => ?_))
        replace h := rd_k h ez24
        refine lv_iadd hx hb dX4_weightSum_25 ?_
        refine lv_istore_n (lv' := [(2, .int (v2_4 + z24)), (3, .int v3_4), (0, .ref (aT 0)), (1, .int x1)]) hx hb dX4_weightSum_26 rfl hl (by decide) rfl (fun ls hl => ?_)
        refine lv_iinc (v := (v3_4 + 1)) (lv' := [(3, .int (v3_4 + 1)), (2, .int (v2_4 + z24)), (0, .ref (aT 0)), (1, .int x1)]) hx hb dX4_weightSum_27 hl (k := 1) rfl rfl (by decide) rfl (fun ls hl => ?_)
        refine lv_goto (tgt := 4) hx hb dX4_weightSum_30 (by decide) ?_
        replace h := Option.some.inj h
        subst h
        exact ih1 (v2_4 + z24) (v3_4 + 1) (wk_l k1) ls (lv_sub hl [0, 1, 2, 3] rfl)
  exact lp4 5000 (0 : Int32) (0 : Int32) h ls (lv_sub hl [0, 1, 2, 3] rfl)
theorem pd_X4_valueAt : yX4_valueAt.cls ≠ "java/lang/invoke/MethodHandle" ∧ yX4_valueAt.cls ≠ "java/lang/invoke/VarHandle" ∧ (parseMethodDescriptor yX4_valueAt.desc).map (fun d => d.parameters.length) = some 2 := by decide +kernel
def f_X4_valueAt_s5 (t_sizes : Nat → Int32) (t_weights : Nat → Int32) (x1 : Int32) (x2 : Int32) (v3_5 : Int32) (v4_5 : Int32) : Option ((Int32 × Int32) ⊕ (Int32)) :=
  (rd 4 t_sizes x1 fun z12 => (if z12 ≤ v4_5 then (some (.inr (0 : Int32))) else (rd 20 t_weights ((x1 * (5 : Int32)) + v4_5) fun z27 => (if (v3_5 + z27) ≤ x2 then (some (.inl ((v3_5 + z27), (v4_5 + 1)))) else (some (.inr v4_5))))))
def f_X4_valueAt (t_sizes : Nat → Int32) (t_weights : Nat → Int32) (x1 : Int32) (x2 : Int32) : Option (Int32) :=
  (wl (fun q => f_X4_valueAt_s5 t_sizes t_weights x1 x2 q.1 q.2) 5000 ((0 : Int32), (0 : Int32)))
set_option maxHeartbeats 4000000 in
set_option maxRecDepth 100000 in
theorem c_X4_valueAt (l : Launch) (D : va_G) (g : Nat → ClassId) (aT : Nat → Nat) (t_conditions : Int32) (t_cases : Int32) (t_rules : Int32) (t_defaultAction : Int32) (t_sizes : Nat → Int32) (t_strides : Nat → Int32) (t_costs : Nat → Int32) (t_weights : Nat → Int32) (t_sets : Nat → Int32) (t_actions : Nat → Int32) (t_rulesWith : Nat → Int32) (x1 : Int32) (x2 : Int32) (r : Int32) (hf : f_X4_valueAt t_sizes t_weights x1 x2 = some r) : CR l yX4_valueAt wsX4_valueAt 0 0 D g [.ref (aT 0), .int x1, .int x2] (wX4 g aT t_conditions t_cases t_rules t_defaultAction t_sizes t_strides t_costs t_weights t_sets t_actions t_rulesWith) (QRi r) := by
  refine Met.ofW (cc := cX4_valueAt) (maxL := 5) (ret := (some .int)) (by decide) rfl ?_
  intro p e s m args below meth c s₁ B hml hv
  obtain ⟨rfl, hP, hK⟩ := hv
  have hx := B.exec
  have hb := B.bytes
  have hr := B.returns
  have hts := atoms_spec (ws := wsX4_valueAt) B.pre
  have hown : s.vm.findClass RX4 = some m.cls := findClass_of_methodNamed B.named
  have hlocks := B.notSynchronized
  have hh0 := (show ∀ w ∈ wsX40, w ∈ wsX4_valueAt from by decide +kernel)
  have hh1 := hts (.fieldLink RX4 9 "DecisionTableCompiler$Table" "sizes" "[I") (by decide +kernel)
  have hh2 := hts (.fieldLink RX4 21 "DecisionTableCompiler$Table" "weights" "[I") (by decide +kernel)
  have hl := lv_entry ([.ref (aT 0), .int x1, .int x2]) (n := 5) (Nat.le_of_ble_eq_true rfl)
  rw [lg_entry_eq]
  generalize (lg_sl ([.ref (aT 0), .int x1, .int x2]) ++ List.replicate (5 - (lg_sl ([.ref (aT 0), .int x1, .int x2])).length) Slot.unset).toArray = ls at hl ⊢
  replace hl : lv_has ls 5 [(0, .ref (aT 0)), (1, .int x1), (2, .int x2)] := hl
  have h := hf
  unfold f_X4_valueAt at h
  refine lv_iconst (v := 0) hx hb dX4_valueAt_0 (by decide) ?_
  refine lv_istore_n (lv' := [(3, .int (0 : Int32)), (0, .ref (aT 0)), (1, .int x1), (2, .int x2)]) hx hb dX4_valueAt_1 rfl hl (by decide) rfl (fun ls hl => ?_)
  refine lv_iconst (v := 0) hx hb dX4_valueAt_2 (by decide) ?_
  refine lv_istore (lv' := [(4, .int (0 : Int32)), (3, .int (0 : Int32)), (0, .ref (aT 0)), (1, .int x1), (2, .int x2)]) hx hb dX4_valueAt_3 hl (by decide) rfl (fun ls hl => ?_)
  have lp5 : ∀ (n : Nat) (v3_5 : Int32) (v4_5 : Int32), wl (fun q => f_X4_valueAt_s5 t_sizes t_weights x1 x2 q.1 q.2) n (v3_5, v4_5) = some r → ∀ ls : Array Slot, lv_has ls 5 [(4, .int v4_5), (3, .int v3_5), (0, .ref (aT 0)), (1, .int x1), (2, .int x2)] → W p l e (headSpec wsX4_valueAt ({ frames := 0, cells := 0, slots := 0, locals := 0 })).room s m ([.ref (aT 0), .int x1, .int x2] : List Value).toArray below meth c s.heap [] 0 0 (MQ below (QRi r) ([.ref (aT 0), .int x1, .int x2] : List Value).toArray s 0 0 (fun _ => False)) (F0 m 5 ls []) := by
    intro n
    induction n with
    | zero =>
      intro v3_5 v4_5 h
      exact wl_0 h
    | succ n ih1 =>
      intro v3_5 v4_5 h ls hl
      obtain ⟨o1, h, k1⟩ := wl_s h
      replace h : f_X4_valueAt_s5 t_sizes t_weights x1 x2 v3_5 v4_5 = some o1 := h
      unfold f_X4_valueAt_s5 at h
      refine lv_iload hx hb dX4_valueAt_5 (lv_at hl 0 rfl) ?_
      refine lv_aload_n hx hb dX4_valueAt_7 rfl (lv_at hl 2 rfl) ?_
      refine va_get (D := D) (ci := 4) (v := .ref (aT 1)) (C := RX4) (T := TX4) (N := 11) hx hb hts hh0 hown hK.1 hP 0 rfl rfl 4 (by decide) hh1 (fun _ h9 => h9) rfl dX4_valueAt_8 ?_
      refine lv_iload_n hx hb dX4_valueAt_11 rfl (lv_at hl 3 rfl) ?_
      have iz12 := rd_in h
      refine va_iald hx hb hK.1 hP 1 0 rfl rfl (rd_in h) dX4_valueAt_12 (lv_topi (fun z12 ez12 => ?_))
      replace h := rd_k h ez12
      refine lv_icmp_ge (tgt := 44) hx hb dX4_valueAt_13 (by decide) (fun c13 => ?_) (fun c13 => ?_)
      · replace h := ite_t c13 h
        refine lv_iconst (v := 0) hx hb dX4_valueAt_44 (by decide) ?_
        replace h := Option.some.inj h
        subst h
        replace h := wk_r k1
        subst h
        exact W.iret hx hb hr (fun t ht hW => ⟨_, rfl, rfl, ht⟩) (fun q hq => by cases hq) dX4_valueAt_45
      · replace h := ite_f c13 h
        refine lv_iload_n hx hb dX4_valueAt_16 rfl (lv_at hl 1 rfl) ?_
        refine lv_aload_n hx hb dX4_valueAt_17 rfl (lv_at hl 2 rfl) ?_
        refine va_get (D := D) (ci := 4) (v := .ref (aT 4)) (C := RX4) (T := TX4) (N := 11) hx hb hts hh0 hown hK.1 hP 0 rfl rfl 7 (by decide) hh2 (fun _ h9 => h9) rfl dX4_valueAt_18 ?_
        refine lv_iload_n hx hb dX4_valueAt_21 rfl (lv_at hl 3 rfl) ?_
        refine lv_iconst (v := 5) hx hb dX4_valueAt_22 (by decide) ?_
        refine lv_imul hx hb dX4_valueAt_23 ?_
        refine lv_iload hx hb dX4_valueAt_24 (lv_at hl 0 rfl) ?_
        refine lv_iadd hx hb dX4_valueAt_26 ?_
        have iz27 := rd_in h
        refine va_iald hx hb hK.1 hP 4 0 rfl rfl (rd_in h) dX4_valueAt_27 (lv_topi (fun z27 ez27 => ?_))
        replace h := rd_k h ez27
        refine lv_iadd hx hb dX4_valueAt_28 ?_
        refine lv_istore_n (lv' := [(3, .int (v3_5 + z27)), (4, .int v4_5), (0, .ref (aT 0)), (1, .int x1), (2, .int x2)]) hx hb dX4_valueAt_29 rfl hl (by decide) rfl (fun ls hl => ?_)
        refine lv_iload_n hx hb dX4_valueAt_30 rfl (lv_at hl 0 rfl) ?_
        refine lv_iload_n hx hb dX4_valueAt_31 rfl (lv_at hl 4 rfl) ?_
        refine lv_icmp_le (tgt := 38) hx hb dX4_valueAt_32 (by decide) (fun c32 => ?_) (fun c32 => ?_)
        · replace h := ite_t c32 h
          refine lv_iinc (v := (v4_5 + 1)) (lv' := [(4, .int (v4_5 + 1)), (3, .int (v3_5 + z27)), (0, .ref (aT 0)), (1, .int x1), (2, .int x2)]) hx hb dX4_valueAt_38 hl (k := 1) rfl rfl (by decide) rfl (fun ls hl => ?_)
          refine lv_goto (tgt := 5) hx hb dX4_valueAt_41 (by decide) ?_
          replace h := Option.some.inj h
          subst h
          exact ih1 (v3_5 + z27) (v4_5 + 1) (wk_l k1) ls (lv_sub hl [0, 1, 2, 3, 4] rfl)
        · replace h := ite_f c32 h
          refine lv_iload hx hb dX4_valueAt_35 (lv_at hl 1 rfl) ?_
          replace h := Option.some.inj h
          subst h
          replace h := wk_r k1
          subst h
          exact W.iret hx hb hr (fun t ht hW => ⟨_, rfl, rfl, ht⟩) (fun q hq => by cases hq) dX4_valueAt_37
  exact lp5 5000 (0 : Int32) (0 : Int32) h ls (lv_sub hl [0, 1, 2, 3, 4] rfl)
theorem pd_X4_deciding : yX4_deciding.cls ≠ "java/lang/invoke/MethodHandle" ∧ yX4_deciding.cls ≠ "java/lang/invoke/VarHandle" ∧ (parseMethodDescriptor yX4_deciding.desc).map (fun d => d.parameters.length) = some 0 := by decide +kernel
def f_X4_deciding_s4 (t_conditions : Int32) (t_cases : Int32) (t_rules : Int32) (t_sizes : Nat → Int32) (t_strides : Nat → Int32) (t_rulesWith : Nat → Int32) (v1_4 : Int32) (v2_4 : Int32) : Option ((Int32 × Int32) ⊕ (Int32)) :=
  (if t_cases ≤ v2_4 then (some (.inr v1_4)) else (Option.bind (f_X4_rulesFor t_conditions t_rules t_sizes t_strides t_rulesWith v2_4) fun z14 => (nm (v1_4 ||| (z14 &&& (-z14))) fun z24 => (some (.inl (z24, (v2_4 + 1)))))))
def f_X4_deciding (t_conditions : Int32) (t_cases : Int32) (t_rules : Int32) (t_sizes : Nat → Int32) (t_strides : Nat → Int32) (t_rulesWith : Nat → Int32) : Option (Int32) :=
  (wl (fun q => f_X4_deciding_s4 t_conditions t_cases t_rules t_sizes t_strides t_rulesWith q.1 q.2) 5000 ((0 : Int32), (0 : Int32)))
set_option maxHeartbeats 4000000 in
set_option maxRecDepth 100000 in
theorem c_X4_deciding (l : Launch) (D : va_G) (g : Nat → ClassId) (aT : Nat → Nat) (t_conditions : Int32) (t_cases : Int32) (t_rules : Int32) (t_defaultAction : Int32) (t_sizes : Nat → Int32) (t_strides : Nat → Int32) (t_costs : Nat → Int32) (t_weights : Nat → Int32) (t_sets : Nat → Int32) (t_actions : Nat → Int32) (t_rulesWith : Nat → Int32)  (r : Int32) (hf : f_X4_deciding t_conditions t_cases t_rules t_sizes t_strides t_rulesWith = some r) : CR l yX4_deciding wsX4_deciding 3 66 D g [.ref (aT 0)] (wX4 g aT t_conditions t_cases t_rules t_defaultAction t_sizes t_strides t_costs t_weights t_sets t_actions t_rulesWith) (QRi r) := by
  refine Met.ofW (cc := cX4_deciding) (maxL := 4) (ret := (some .int)) (by decide) rfl ?_
  intro p e s m args below meth c s₁ B hml hv
  obtain ⟨rfl, hP, hK⟩ := hv
  have hx := B.exec
  have hb := B.bytes
  have hr := B.returns
  have hts := atoms_spec (ws := wsX4_deciding) B.pre
  have hown : s.vm.findClass RX4 = some m.cls := findClass_of_methodNamed B.named
  have hlocks := B.notSynchronized
  have hh0 := (show ∀ w ∈ wsX40, w ∈ wsX4_deciding from by decide +kernel)
  have hh1 := hts (.fieldLink RX4 37 "DecisionTableCompiler$Table" "cases" "I") (by decide +kernel)
  have hl := lv_entry ([.ref (aT 0)]) (n := 4) (Nat.le_of_ble_eq_true rfl)
  rw [lg_entry_eq]
  generalize (lg_sl ([.ref (aT 0)]) ++ List.replicate (4 - (lg_sl ([.ref (aT 0)])).length) Slot.unset).toArray = ls at hl ⊢
  replace hl : lv_has ls 4 [(0, .ref (aT 0))] := hl
  have h := hf
  unfold f_X4_deciding at h
  refine lv_iconst (v := 0) hx hb dX4_deciding_0 (by decide) ?_
  refine lv_istore_n (lv' := [(1, .int (0 : Int32)), (0, .ref (aT 0))]) hx hb dX4_deciding_1 rfl hl (by decide) rfl (fun ls hl => ?_)
  refine lv_iconst (v := 0) hx hb dX4_deciding_2 (by decide) ?_
  refine lv_istore_n (lv' := [(2, .int (0 : Int32)), (1, .int (0 : Int32)), (0, .ref (aT 0))]) hx hb dX4_deciding_3 rfl hl (by decide) rfl (fun ls hl => ?_)
  have lp4 : ∀ (n : Nat) (v1_4 : Int32) (v2_4 : Int32), wl (fun q => f_X4_deciding_s4 t_conditions t_cases t_rules t_sizes t_strides t_rulesWith q.1 q.2) n (v1_4, v2_4) = some r → ∀ ls : Array Slot, lv_has ls 4 [(2, .int v2_4), (1, .int v1_4), (0, .ref (aT 0))] → W p l e (headSpec wsX4_deciding ({ frames := 3, cells := 0, slots := 0, locals := 66 })).room s m ([.ref (aT 0)] : List Value).toArray below meth c s.heap [] 0 0 (MQ below (QRi r) ([.ref (aT 0)] : List Value).toArray s 0 0 (fun _ => False)) (F0 m 4 ls []) := by
    intro n
    induction n with
    | zero =>
      intro v1_4 v2_4 h
      exact wl_0 h
    | succ n ih1 =>
      intro v1_4 v2_4 h ls hl
      obtain ⟨o1, h, k1⟩ := wl_s h
      replace h : f_X4_deciding_s4 t_conditions t_cases t_rules t_sizes t_strides t_rulesWith v1_4 v2_4 = some o1 := h
      unfold f_X4_deciding_s4 at h
      refine lv_iload_n hx hb dX4_deciding_4 rfl (lv_at hl 0 rfl) ?_
      refine lv_aload_n hx hb dX4_deciding_5 rfl (lv_at hl 2 rfl) ?_
      refine va_get (D := D) (ci := 4) (v := .int t_cases) (C := RX4) (T := TX4) (N := 11) hx hb hts hh0 hown hK.1 hP 0 rfl rfl 1 (by decide) hh1 (fun _ h9 => h9) rfl dX4_deciding_6 ?_
      refine lv_icmp_ge (tgt := 31) hx hb dX4_deciding_9 (by decide) (fun c9 => ?_) (fun c9 => ?_)
      · replace h := ite_t c9 h
        refine lv_iload_n hx hb dX4_deciding_31 rfl (lv_at hl 1 rfl) ?_
        replace h := Option.some.inj h
        subst h
        replace h := wk_r k1
        subst h
        exact W.iret hx hb hr (fun t ht hW => ⟨_, rfl, rfl, ht⟩) (fun q hq => by cases hq) dX4_deciding_32
      · replace h := ite_f c9 h
        refine lv_aload_n hx hb dX4_deciding_12 rfl (lv_at hl 2 rfl) ?_
        refine lv_iload_n hx hb dX4_deciding_13 rfl (lv_at hl 0 rfl) ?_
        obtain ⟨z14, e_14, h⟩ := bd_s h
        refine cr_i (va_runV (As := [.int v2_4]) (rest := []) ⟨hx, hb, hml, hown, hts⟩ (c_X4_rulesFor l D g aT t_conditions t_cases t_rules t_defaultAction t_sizes t_strides t_costs t_weights t_sets t_actions t_rulesWith v2_4 z14 e_14) (cwV 1 hts gX4_deciding_X4_rulesFor rfl rfl rfl ⟨rfl, pd_X4_rulesFor⟩ ⟨Nat.le_of_ble_eq_true rfl, Nat.le_of_ble_eq_true rfl⟩) (pr_v hK hP (q0 := 0) (ci := 4) rfl rfl rfl) rfl rfl hl.1 rfl (lv_room (Nat.le_of_ble_eq_true rfl)) dX4_deciding_14 ⟨Nat.zero_le _, Nat.zero_le _⟩) ?_
        refine lv_istore_n (lv' := [(3, .int z14), (2, .int v2_4), (1, .int v1_4), (0, .ref (aT 0))]) hx hb dX4_deciding_17 rfl hl (by decide) rfl (fun ls hl => ?_)
        refine lv_iload_n hx hb dX4_deciding_18 rfl (lv_at hl 2 rfl) ?_
        refine lv_iload_n hx hb dX4_deciding_19 rfl (lv_at hl 0 rfl) ?_
        refine lv_iload_n hx hb dX4_deciding_20 rfl (lv_at hl 0 rfl) ?_
        refine lv_ineg hx hb dX4_deciding_21 ?_
        refine lv_iand hx hb dX4_deciding_22 ?_
        refine lv_ior hx hb dX4_deciding_23 ?_
        refine lv_topi (fun z24 ez24 => ?_)
        replace h := nm_n h ez24
        refine lv_istore_n (lv' := [(1, .int z24), (3, .int z14), (2, .int v2_4), (0, .ref (aT 0))]) hx hb dX4_deciding_24 rfl hl (by decide) rfl (fun ls hl => ?_)
        refine lv_iinc (v := (v2_4 + 1)) (lv' := [(2, .int (v2_4 + 1)), (1, .int z24), (3, .int z14), (0, .ref (aT 0))]) hx hb dX4_deciding_25 hl (k := 2) rfl rfl (by decide) rfl (fun ls hl => ?_)
        refine lv_goto (tgt := 4) hx hb dX4_deciding_28 (by decide) ?_
        replace h := Option.some.inj h
        subst h
        exact ih1 z24 (v2_4 + 1) (wk_l k1) ls (lv_sub hl [0, 1, 3] rfl)
  exact lp4 5000 (0 : Int32) (0 : Int32) h ls (lv_sub hl [0, 1, 2] rfl)
theorem pd_X4_setOf : yX4_setOf.cls ≠ "java/lang/invoke/MethodHandle" ∧ yX4_setOf.cls ≠ "java/lang/invoke/VarHandle" ∧ (parseMethodDescriptor yX4_setOf.desc).map (fun d => d.parameters.length) = some 2 := by decide +kernel
def f_X4_setOf (t_sets : Nat → Int32) (x1 : Int32) (x2 : Int32) : Option (Int32) :=
  (rd 48 t_sets ((x1 * (4 : Int32)) + x2) fun z9 => (some z9))
set_option maxHeartbeats 4000000 in
set_option maxRecDepth 100000 in
theorem c_X4_setOf (l : Launch) (D : va_G) (g : Nat → ClassId) (aT : Nat → Nat) (t_conditions : Int32) (t_cases : Int32) (t_rules : Int32) (t_defaultAction : Int32) (t_sizes : Nat → Int32) (t_strides : Nat → Int32) (t_costs : Nat → Int32) (t_weights : Nat → Int32) (t_sets : Nat → Int32) (t_actions : Nat → Int32) (t_rulesWith : Nat → Int32) (x1 : Int32) (x2 : Int32) (r : Int32) (hf : f_X4_setOf t_sets x1 x2 = some r) : CR l yX4_setOf wsX4_setOf 0 0 D g [.ref (aT 0), .int x1, .int x2] (wX4 g aT t_conditions t_cases t_rules t_defaultAction t_sizes t_strides t_costs t_weights t_sets t_actions t_rulesWith) (QRi r) := by
  refine Met.ofW (cc := cX4_setOf) (maxL := 3) (ret := (some .int)) (by decide) rfl ?_
  intro p e s m args below meth c s₁ B hml hv
  obtain ⟨rfl, hP, hK⟩ := hv
  have hx := B.exec
  have hb := B.bytes
  have hr := B.returns
  have hts := atoms_spec (ws := wsX4_setOf) B.pre
  have hown : s.vm.findClass RX4 = some m.cls := findClass_of_methodNamed B.named
  have hlocks := B.notSynchronized
  have hh0 := (show ∀ w ∈ wsX40, w ∈ wsX4_setOf from by decide +kernel)
  have hh1 := hts (.fieldLink RX4 24 "DecisionTableCompiler$Table" "sets" "[I") (by decide +kernel)
  have hl := lv_entry ([.ref (aT 0), .int x1, .int x2]) (n := 3) (Nat.le_of_ble_eq_true rfl)
  rw [lg_entry_eq]
  generalize (lg_sl ([.ref (aT 0), .int x1, .int x2]) ++ List.replicate (3 - (lg_sl ([.ref (aT 0), .int x1, .int x2])).length) Slot.unset).toArray = ls at hl ⊢
  replace hl : lv_has ls 3 [(0, .ref (aT 0)), (1, .int x1), (2, .int x2)] := hl
  have h := hf
  unfold f_X4_setOf at h
  refine lv_aload_n hx hb dX4_setOf_0 rfl (lv_at hl 0 rfl) ?_
  refine va_get (D := D) (ci := 4) (v := .ref (aT 5)) (C := RX4) (T := TX4) (N := 11) hx hb hts hh0 hown hK.1 hP 0 rfl rfl 8 (by decide) hh1 (fun _ h9 => h9) rfl dX4_setOf_1 ?_
  refine lv_iload_n hx hb dX4_setOf_4 rfl (lv_at hl 1 rfl) ?_
  refine lv_iconst (v := 4) hx hb dX4_setOf_5 (by decide) ?_
  refine lv_imul hx hb dX4_setOf_6 ?_
  refine lv_iload_n hx hb dX4_setOf_7 rfl (lv_at hl 2 rfl) ?_
  refine lv_iadd hx hb dX4_setOf_8 ?_
  have iz9 := rd_in h
  refine va_iald hx hb hK.1 hP 5 0 rfl rfl (rd_in h) dX4_setOf_9 (lv_topi (fun z9 ez9 => ?_))
  replace h := rd_k h ez9
  replace h := Option.some.inj h
  subst h
  exact W.iret hx hb hr (fun t ht hW => ⟨_, rfl, rfl, ht⟩) (fun q hq => by cases hq) dX4_setOf_10
theorem pd_X4_inConflict : yX4_inConflict.cls ≠ "java/lang/invoke/MethodHandle" ∧ yX4_inConflict.cls ≠ "java/lang/invoke/VarHandle" ∧ (parseMethodDescriptor yX4_inConflict.desc).map (fun d => d.parameters.length) = some 2 := by decide +kernel
def f_X4_inConflict_s19 (t_conditions : Int32) (t_sets : Nat → Int32) (x1 : Int32) (x2 : Int32) (v3_19 : Int32) : Option ((Int32) ⊕ (Bool)) :=
  (if t_conditions ≤ v3_19 then (some (.inr true)) else (Option.bind (f_X4_setOf t_sets x1 v3_19) fun z30 => (Option.bind (f_X4_setOf t_sets x2 v3_19) fun z36 => (if (z30 &&& z36) = (0 : Int32) then (some (.inr false)) else (some (.inl (v3_19 + 1)))))))
def f_X4_inConflict (t_conditions : Int32) (t_sets : Nat → Int32) (t_actions : Nat → Int32) (x1 : Int32) (x2 : Int32) : Option (Bool) :=
  (rd 12 t_actions x1 fun z5 => (rd 12 t_actions x2 fun z11 => (if z5 = z11 then (some false) else (wl (fun q => f_X4_inConflict_s19 t_conditions t_sets x1 x2 q) 5000 (0 : Int32)))))
set_option maxHeartbeats 4000000 in
set_option maxRecDepth 100000 in
theorem c_X4_inConflict (l : Launch) (D : va_G) (g : Nat → ClassId) (aT : Nat → Nat) (t_conditions : Int32) (t_cases : Int32) (t_rules : Int32) (t_defaultAction : Int32) (t_sizes : Nat → Int32) (t_strides : Nat → Int32) (t_costs : Nat → Int32) (t_weights : Nat → Int32) (t_sets : Nat → Int32) (t_actions : Nat → Int32) (t_rulesWith : Nat → Int32) (x1 : Int32) (x2 : Int32) (r : Bool) (hf : f_X4_inConflict t_conditions t_sets t_actions x1 x2 = some r) : CR l yX4_inConflict wsX4_inConflict 1 22 D g [.ref (aT 0), .int x1, .int x2] (wX4 g aT t_conditions t_cases t_rules t_defaultAction t_sizes t_strides t_costs t_weights t_sets t_actions t_rulesWith) (QRi (bI r)) := by
  refine Met.ofW (cc := cX4_inConflict) (maxL := 4) (ret := (some .boolean)) (by decide) rfl ?_
  intro p e s m args below meth c s₁ B hml hv
  obtain ⟨rfl, hP, hK⟩ := hv
  have hx := B.exec
  have hb := B.bytes
  have hr := B.returns
  have hts := atoms_spec (ws := wsX4_inConflict) B.pre
  have hown : s.vm.findClass RX4 = some m.cls := findClass_of_methodNamed B.named
  have hlocks := B.notSynchronized
  have hh0 := (show ∀ w ∈ wsX40, w ∈ wsX4_inConflict from by decide +kernel)
  have hh1 := hts (.fieldLink RX4 27 "DecisionTableCompiler$Table" "actions" "[I") (by decide +kernel)
  have hh2 := hts (.fieldLink RX4 33 "DecisionTableCompiler$Table" "conditions" "I") (by decide +kernel)
  have hl := lv_entry ([.ref (aT 0), .int x1, .int x2]) (n := 4) (Nat.le_of_ble_eq_true rfl)
  rw [lg_entry_eq]
  generalize (lg_sl ([.ref (aT 0), .int x1, .int x2]) ++ List.replicate (4 - (lg_sl ([.ref (aT 0), .int x1, .int x2])).length) Slot.unset).toArray = ls at hl ⊢
  replace hl : lv_has ls 4 [(0, .ref (aT 0)), (1, .int x1), (2, .int x2)] := hl
  have h := hf
  unfold f_X4_inConflict at h
  refine lv_aload_n hx hb dX4_inConflict_0 rfl (lv_at hl 0 rfl) ?_
  refine va_get (D := D) (ci := 4) (v := .ref (aT 6)) (C := RX4) (T := TX4) (N := 11) hx hb hts hh0 hown hK.1 hP 0 rfl rfl 9 (by decide) hh1 (fun _ h9 => h9) rfl dX4_inConflict_1 ?_
  refine lv_iload_n hx hb dX4_inConflict_4 rfl (lv_at hl 1 rfl) ?_
  have iz5 := rd_in h
  refine va_iald hx hb hK.1 hP 6 0 rfl rfl (rd_in h) dX4_inConflict_5 (lv_topi (fun z5 ez5 => ?_))
  replace h := rd_k h ez5
  refine lv_aload_n hx hb dX4_inConflict_6 rfl (lv_at hl 0 rfl) ?_
  refine va_get (D := D) (ci := 4) (v := .ref (aT 6)) (C := RX4) (T := TX4) (N := 11) hx hb hts hh0 hown hK.1 hP 0 rfl rfl 9 (by decide) hh1 (fun _ h9 => h9) rfl dX4_inConflict_7 ?_
  refine lv_iload_n hx hb dX4_inConflict_10 rfl (lv_at hl 2 rfl) ?_
  have iz11 := rd_in h
  refine va_iald hx hb hK.1 hP 6 0 rfl rfl (rd_in h) dX4_inConflict_11 (lv_topi (fun z11 ez11 => ?_))
  replace h := rd_k h ez11
  refine lv_icmp_ne (tgt := 17) hx hb dX4_inConflict_12 (by decide) (fun c12 => ?_) (fun c12 => ?_)
  · replace h := ite_f c12 h
    refine lv_iconst (v := 0) hx hb dX4_inConflict_17 (by decide) ?_
    refine lv_istore_n (lv' := [(3, .int (0 : Int32)), (0, .ref (aT 0)), (1, .int x1), (2, .int x2)]) hx hb dX4_inConflict_18 rfl hl (by decide) rfl (fun ls hl => ?_)
    have lp19 : ∀ (n : Nat) (v3_19 : Int32), wl (fun q => f_X4_inConflict_s19 t_conditions t_sets x1 x2 q) n v3_19 = some r → ∀ ls : Array Slot, lv_has ls 4 [(3, .int v3_19), (0, .ref (aT 0)), (1, .int x1), (2, .int x2)] → W p l e (headSpec wsX4_inConflict ({ frames := 1, cells := 0, slots := 0, locals := 22 })).room s m ([.ref (aT 0), .int x1, .int x2] : List Value).toArray below meth c s.heap [] 0 0 (MQ below (QRi (bI r)) ([.ref (aT 0), .int x1, .int x2] : List Value).toArray s 0 0 (fun _ => False)) (F0 m 19 ls []) := by
      intro n
      induction n with
      | zero =>
        intro v3_19 h
        exact wl_0 h
      | succ n ih1 =>
        intro v3_19 h ls hl
        obtain ⟨o1, h, k1⟩ := wl_s h
        replace h : f_X4_inConflict_s19 t_conditions t_sets x1 x2 v3_19 = some o1 := h
        unfold f_X4_inConflict_s19 at h
        refine lv_iload_n hx hb dX4_inConflict_19 rfl (lv_at hl 0 rfl) ?_
        refine lv_aload_n hx hb dX4_inConflict_20 rfl (lv_at hl 1 rfl) ?_
        refine va_get (D := D) (ci := 4) (v := .int t_conditions) (C := RX4) (T := TX4) (N := 11) hx hb hts hh0 hown hK.1 hP 0 rfl rfl 0 (by decide) hh2 (fun _ h9 => h9) rfl dX4_inConflict_21 ?_
        refine lv_icmp_ge (tgt := 51) hx hb dX4_inConflict_24 (by decide) (fun c24 => ?_) (fun c24 => ?_)
        · replace h := ite_t c24 h
          refine lv_iconst (v := 1) hx hb dX4_inConflict_51 (by decide) ?_
          replace h := Option.some.inj h
          subst h
          replace h := wk_r k1
          subst h
          exact W.zret hx hb hr rfl (fun t ht hW => ⟨_, rfl, rfl, ht⟩) (fun q hq => by cases hq) dX4_inConflict_52
        · replace h := ite_f c24 h
          refine lv_aload_n hx hb dX4_inConflict_27 rfl (lv_at hl 1 rfl) ?_
          refine lv_iload_n hx hb dX4_inConflict_28 rfl (lv_at hl 2 rfl) ?_
          refine lv_iload_n hx hb dX4_inConflict_29 rfl (lv_at hl 0 rfl) ?_
          obtain ⟨z30, e_30, h⟩ := bd_s h
          refine cr_i (va_runV (As := [.int x1, .int v3_19]) (rest := []) ⟨hx, hb, hml, hown, hts⟩ (c_X4_setOf l D g aT t_conditions t_cases t_rules t_defaultAction t_sizes t_strides t_costs t_weights t_sets t_actions t_rulesWith x1 v3_19 z30 e_30) (cwV 2 hts gX4_inConflict_X4_setOf rfl rfl rfl ⟨rfl, pd_X4_setOf⟩ ⟨Nat.le_of_ble_eq_true rfl, Nat.le_of_ble_eq_true rfl⟩) (pr_v hK hP (q0 := 0) (ci := 4) rfl rfl rfl) rfl rfl hl.1 rfl (lv_room (Nat.le_of_ble_eq_true rfl)) dX4_inConflict_30 ⟨Nat.zero_le _, Nat.zero_le _⟩) ?_
          refine lv_aload_n hx hb dX4_inConflict_33 rfl (lv_at hl 1 rfl) ?_
          refine lv_iload_n hx hb dX4_inConflict_34 rfl (lv_at hl 3 rfl) ?_
          refine lv_iload_n hx hb dX4_inConflict_35 rfl (lv_at hl 0 rfl) ?_
          obtain ⟨z36, e_36, h⟩ := bd_s h
          refine cr_i (va_runV (As := [.int x2, .int v3_19]) (rest := [.int z30]) ⟨hx, hb, hml, hown, hts⟩ (c_X4_setOf l D g aT t_conditions t_cases t_rules t_defaultAction t_sizes t_strides t_costs t_weights t_sets t_actions t_rulesWith x2 v3_19 z36 e_36) (cwV 2 hts gX4_inConflict_X4_setOf rfl rfl rfl ⟨rfl, pd_X4_setOf⟩ ⟨Nat.le_of_ble_eq_true rfl, Nat.le_of_ble_eq_true rfl⟩) (pr_v hK hP (q0 := 0) (ci := 4) rfl rfl rfl) rfl rfl hl.1 rfl (lv_room (Nat.le_of_ble_eq_true rfl)) dX4_inConflict_36 ⟨Nat.zero_le _, Nat.zero_le _⟩) ?_
          refine lv_iand hx hb dX4_inConflict_39 ?_
          refine lv_if_ne (tgt := 45) hx hb dX4_inConflict_40 (by decide) (fun c40 => ?_) (fun c40 => ?_)
          · replace h := ite_f c40 h
            refine lv_iinc (v := (v3_19 + 1)) (lv' := [(3, .int (v3_19 + 1)), (0, .ref (aT 0)), (1, .int x1), (2, .int x2)]) hx hb dX4_inConflict_45 hl (k := 0) rfl rfl (by decide) rfl (fun ls hl => ?_)
            refine lv_goto (tgt := 19) hx hb dX4_inConflict_48 (by decide) ?_
            replace h := Option.some.inj h
            subst h
            exact ih1 (v3_19 + 1) (wk_l k1) ls (lv_sub hl [0, 1, 2, 3] rfl)
          · replace h := ite_t c40 h
            refine lv_iconst (v := 0) hx hb dX4_inConflict_43 (by decide) ?_
            replace h := Option.some.inj h
            subst h
            replace h := wk_r k1
            subst h
            exact W.zret hx hb hr rfl (fun t ht hW => ⟨_, rfl, rfl, ht⟩) (fun q hq => by cases hq) dX4_inConflict_44
    exact lp19 5000 (0 : Int32) h ls (lv_sub hl [0, 1, 2, 3] rfl)
  · replace h := ite_t c12 h
    refine lv_iconst (v := 0) hx hb dX4_inConflict_15 (by decide) ?_
    replace h := Option.some.inj h
    subst h
    exact W.zret hx hb hr rfl (fun t ht hW => ⟨_, rfl, rfl, ht⟩) (fun q hq => by cases hq) dX4_inConflict_16
theorem pd_X4_lowestCommonCase : yX4_lowestCommonCase.cls ≠ "java/lang/invoke/MethodHandle" ∧ yX4_lowestCommonCase.cls ≠ "java/lang/invoke/VarHandle" ∧ (parseMethodDescriptor yX4_lowestCommonCase.desc).map (fun d => d.parameters.length) = some 2 := by decide +kernel
def f_X4_lowestCommonCase_s5 (t_conditions : Int32) (t_strides : Nat → Int32) (t_sets : Nat → Int32) (x1 : Int32) (x2 : Int32) (v3_5 : Int32) (v4_5 : Int32) : Option ((Int32 × Int32) ⊕ (Int32)) :=
  (if t_conditions ≤ v4_5 then (some (.inr v3_5)) else (Option.bind (f_X4_setOf t_sets x1 v4_5) fun z19 => (Option.bind (f_X4_setOf t_sets x2 v4_5) fun z26 => (Option.bind (f_X4_lowestValue (z19 &&& z26)) fun z30 => (rd 4 t_strides v4_5 fun z39 => (some (.inl ((v3_5 + (z30 * z39)), (v4_5 + 1)))))))))
def f_X4_lowestCommonCase (t_conditions : Int32) (t_strides : Nat → Int32) (t_sets : Nat → Int32) (x1 : Int32) (x2 : Int32) : Option (Int32) :=
  (wl (fun q => f_X4_lowestCommonCase_s5 t_conditions t_strides t_sets x1 x2 q.1 q.2) 5000 ((0 : Int32), (0 : Int32)))
set_option maxHeartbeats 4000000 in
set_option maxRecDepth 100000 in
theorem c_X4_lowestCommonCase (l : Launch) (D : va_G) (g : Nat → ClassId) (aT : Nat → Nat) (t_conditions : Int32) (t_cases : Int32) (t_rules : Int32) (t_defaultAction : Int32) (t_sizes : Nat → Int32) (t_strides : Nat → Int32) (t_costs : Nat → Int32) (t_weights : Nat → Int32) (t_sets : Nat → Int32) (t_actions : Nat → Int32) (t_rulesWith : Nat → Int32) (x1 : Int32) (x2 : Int32) (r : Int32) (hf : f_X4_lowestCommonCase t_conditions t_strides t_sets x1 x2 = some r) : CR l yX4_lowestCommonCase wsX4_lowestCommonCase 1 22 D g [.ref (aT 0), .int x1, .int x2] (wX4 g aT t_conditions t_cases t_rules t_defaultAction t_sizes t_strides t_costs t_weights t_sets t_actions t_rulesWith) (QRi r) := by
  refine Met.ofW (cc := cX4_lowestCommonCase) (maxL := 5) (ret := (some .int)) (by decide) rfl ?_
  intro p e s m args below meth c s₁ B hml hv
  obtain ⟨rfl, hP, hK⟩ := hv
  have hx := B.exec
  have hb := B.bytes
  have hr := B.returns
  have hts := atoms_spec (ws := wsX4_lowestCommonCase) B.pre
  have hown : s.vm.findClass RX4 = some m.cls := findClass_of_methodNamed B.named
  have hlocks := B.notSynchronized
  have hh0 := (show ∀ w ∈ wsX40, w ∈ wsX4_lowestCommonCase from by decide +kernel)
  have hh1 := hts (.fieldLink RX4 33 "DecisionTableCompiler$Table" "conditions" "I") (by decide +kernel)
  have hh2 := hts (.fieldLink RX4 15 "DecisionTableCompiler$Table" "strides" "[I") (by decide +kernel)
  have hl := lv_entry ([.ref (aT 0), .int x1, .int x2]) (n := 5) (Nat.le_of_ble_eq_true rfl)
  rw [lg_entry_eq]
  generalize (lg_sl ([.ref (aT 0), .int x1, .int x2]) ++ List.replicate (5 - (lg_sl ([.ref (aT 0), .int x1, .int x2])).length) Slot.unset).toArray = ls at hl ⊢
  replace hl : lv_has ls 5 [(0, .ref (aT 0)), (1, .int x1), (2, .int x2)] := hl
  have h := hf
  unfold f_X4_lowestCommonCase at h
  refine lv_iconst (v := 0) hx hb dX4_lowestCommonCase_0 (by decide) ?_
  refine lv_istore_n (lv' := [(3, .int (0 : Int32)), (0, .ref (aT 0)), (1, .int x1), (2, .int x2)]) hx hb dX4_lowestCommonCase_1 rfl hl (by decide) rfl (fun ls hl => ?_)
  refine lv_iconst (v := 0) hx hb dX4_lowestCommonCase_2 (by decide) ?_
  refine lv_istore (lv' := [(4, .int (0 : Int32)), (3, .int (0 : Int32)), (0, .ref (aT 0)), (1, .int x1), (2, .int x2)]) hx hb dX4_lowestCommonCase_3 hl (by decide) rfl (fun ls hl => ?_)
  have lp5 : ∀ (n : Nat) (v3_5 : Int32) (v4_5 : Int32), wl (fun q => f_X4_lowestCommonCase_s5 t_conditions t_strides t_sets x1 x2 q.1 q.2) n (v3_5, v4_5) = some r → ∀ ls : Array Slot, lv_has ls 5 [(4, .int v4_5), (3, .int v3_5), (0, .ref (aT 0)), (1, .int x1), (2, .int x2)] → W p l e (headSpec wsX4_lowestCommonCase ({ frames := 1, cells := 0, slots := 0, locals := 22 })).room s m ([.ref (aT 0), .int x1, .int x2] : List Value).toArray below meth c s.heap [] 0 0 (MQ below (QRi r) ([.ref (aT 0), .int x1, .int x2] : List Value).toArray s 0 0 (fun _ => False)) (F0 m 5 ls []) := by
    intro n
    induction n with
    | zero =>
      intro v3_5 v4_5 h
      exact wl_0 h
    | succ n ih1 =>
      intro v3_5 v4_5 h ls hl
      obtain ⟨o1, h, k1⟩ := wl_s h
      replace h : f_X4_lowestCommonCase_s5 t_conditions t_strides t_sets x1 x2 v3_5 v4_5 = some o1 := h
      unfold f_X4_lowestCommonCase_s5 at h
      refine lv_iload hx hb dX4_lowestCommonCase_5 (lv_at hl 0 rfl) ?_
      refine lv_aload_n hx hb dX4_lowestCommonCase_7 rfl (lv_at hl 2 rfl) ?_
      refine va_get (D := D) (ci := 4) (v := .int t_conditions) (C := RX4) (T := TX4) (N := 11) hx hb hts hh0 hown hK.1 hP 0 rfl rfl 0 (by decide) hh1 (fun _ h9 => h9) rfl dX4_lowestCommonCase_8 ?_
      refine lv_icmp_ge (tgt := 49) hx hb dX4_lowestCommonCase_11 (by decide) (fun c11 => ?_) (fun c11 => ?_)
      · replace h := ite_t c11 h
        refine lv_iload_n hx hb dX4_lowestCommonCase_49 rfl (lv_at hl 1 rfl) ?_
        replace h := Option.some.inj h
        subst h
        replace h := wk_r k1
        subst h
        exact W.iret hx hb hr (fun t ht hW => ⟨_, rfl, rfl, ht⟩) (fun q hq => by cases hq) dX4_lowestCommonCase_50
      · replace h := ite_f c11 h
        refine lv_iload_n hx hb dX4_lowestCommonCase_14 rfl (lv_at hl 1 rfl) ?_
        refine lv_aload_n hx hb dX4_lowestCommonCase_15 rfl (lv_at hl 2 rfl) ?_
        refine lv_iload_n hx hb dX4_lowestCommonCase_16 rfl (lv_at hl 3 rfl) ?_
        refine lv_iload hx hb dX4_lowestCommonCase_17 (lv_at hl 0 rfl) ?_
        obtain ⟨z19, e_19, h⟩ := bd_s h
        refine cr_i (va_runV (As := [.int x1, .int v4_5]) (rest := [.int v3_5]) ⟨hx, hb, hml, hown, hts⟩ (c_X4_setOf l D g aT t_conditions t_cases t_rules t_defaultAction t_sizes t_strides t_costs t_weights t_sets t_actions t_rulesWith x1 v4_5 z19 e_19) (cwV 2 hts gX4_lowestCommonCase_X4_setOf rfl rfl rfl ⟨rfl, pd_X4_setOf⟩ ⟨Nat.le_of_ble_eq_true rfl, Nat.le_of_ble_eq_true rfl⟩) (pr_v hK hP (q0 := 0) (ci := 4) rfl rfl rfl) rfl rfl hl.1 rfl (lv_room (Nat.le_of_ble_eq_true rfl)) dX4_lowestCommonCase_19 ⟨Nat.zero_le _, Nat.zero_le _⟩) ?_
        refine lv_aload_n hx hb dX4_lowestCommonCase_22 rfl (lv_at hl 2 rfl) ?_
        refine lv_iload_n hx hb dX4_lowestCommonCase_23 rfl (lv_at hl 4 rfl) ?_
        refine lv_iload hx hb dX4_lowestCommonCase_24 (lv_at hl 0 rfl) ?_
        obtain ⟨z26, e_26, h⟩ := bd_s h
        refine cr_i (va_runV (As := [.int x2, .int v4_5]) (rest := [.int z19, .int v3_5]) ⟨hx, hb, hml, hown, hts⟩ (c_X4_setOf l D g aT t_conditions t_cases t_rules t_defaultAction t_sizes t_strides t_costs t_weights t_sets t_actions t_rulesWith x2 v4_5 z26 e_26) (cwV 2 hts gX4_lowestCommonCase_X4_setOf rfl rfl rfl ⟨rfl, pd_X4_setOf⟩ ⟨Nat.le_of_ble_eq_true rfl, Nat.le_of_ble_eq_true rfl⟩) (pr_v hK hP (q0 := 0) (ci := 4) rfl rfl rfl) rfl rfl hl.1 rfl (lv_room (Nat.le_of_ble_eq_true rfl)) dX4_lowestCommonCase_26 ⟨Nat.zero_le _, Nat.zero_le _⟩) ?_
        refine lv_iand hx hb dX4_lowestCommonCase_29 ?_
        obtain ⟨z30, e_30, h⟩ := bd_s h
        refine cr_i (va_runS (As := [.int (z19 &&& z26)]) (rest := [.int v3_5]) ⟨hx, hb, hml, hown, hts⟩ (c_X4_lowestValue l D g (z19 &&& z26) z30 e_30) (va_cwS 1 hts gX4_lowestCommonCase_X4_lowestValue rfl rfl rfl pd_X4_lowestValue ⟨Nat.le_of_ble_eq_true rfl, Nat.le_of_ble_eq_true rfl⟩) (pr_s hK P_nil) rfl rfl hl.1 rfl (lv_room (Nat.le_of_ble_eq_true rfl)) dX4_lowestCommonCase_30 ⟨Nat.zero_le _, Nat.zero_le _⟩) ?_
        refine lv_aload_n hx hb dX4_lowestCommonCase_33 rfl (lv_at hl 2 rfl) ?_
        refine va_get (D := D) (ci := 4) (v := .ref (aT 2)) (C := RX4) (T := TX4) (N := 11) hx hb hts hh0 hown hK.1 hP 0 rfl rfl 5 (by decide) hh2 (fun _ h9 => h9) rfl dX4_lowestCommonCase_34 ?_
        refine lv_iload hx hb dX4_lowestCommonCase_37 (lv_at hl 0 rfl) ?_
        have iz39 := rd_in h
        refine va_iald hx hb hK.1 hP 2 0 rfl rfl (rd_in h) dX4_lowestCommonCase_39 (lv_topi (fun z39 ez39 => ?_))
        replace h := rd_k h ez39
        refine lv_imul hx hb dX4_lowestCommonCase_40 ?_
        refine lv_iadd hx hb dX4_lowestCommonCase_41 ?_
        refine lv_istore_n (lv' := [(3, .int (v3_5 + (z30 * z39))), (4, .int v4_5), (0, .ref (aT 0)), (1, .int x1), (2, .int x2)]) hx hb dX4_lowestCommonCase_42 rfl hl (by decide) rfl (fun ls hl => ?_)
        refine lv_iinc (v := (v4_5 + 1)) (lv' := [(4, .int (v4_5 + 1)), (3, .int (v3_5 + (z30 * z39))), (0, .ref (aT 0)), (1, .int x1), (2, .int x2)]) hx hb dX4_lowestCommonCase_43 hl (k := 1) rfl rfl (by decide) rfl (fun ls hl => ?_)
        refine lv_goto (tgt := 5) hx hb dX4_lowestCommonCase_46 (by decide) ?_
        replace h := Option.some.inj h
        subst h
        exact ih1 (v3_5 + (z30 * z39)) (v4_5 + 1) (wk_l k1) ls (lv_sub hl [0, 1, 2, 3, 4] rfl)
  exact lp5 5000 (0 : Int32) (0 : Int32) h ls (lv_sub hl [0, 1, 2, 3, 4] rfl)
theorem pd_X4_moveRule : yX4_moveRule.cls ≠ "java/lang/invoke/MethodHandle" ∧ yX4_moveRule.cls ≠ "java/lang/invoke/VarHandle" ∧ (parseMethodDescriptor yX4_moveRule.desc).map (fun d => d.parameters.length) = some 2 := by decide +kernel
def f_X4_moveRule (t_sets : Nat → Int32) (t_actions : Nat → Int32) (x1 : Int32) (x2 : Int32) : Option ((Nat → Int32) × (Nat → Int32)) :=
  (cp 48 48 (x1 * (4 : Int32)) (x2 * (4 : Int32)) (4 : Int32) (rd 12 t_actions x1 fun z28 => (ix 12 x2 (some ((va_cpy t_sets t_sets (x1 * (4 : Int32)).toNatClampNeg (x2 * (4 : Int32)).toNatClampNeg (4 : Int32).toNatClampNeg), (upd t_actions x2.toNatClampNeg z28))))))
set_option maxHeartbeats 4000000 in
set_option maxRecDepth 100000 in
theorem c_X4_moveRule (l : Launch) (sz : Nat) (D : va_G) (g : Nat → ClassId) (aT : Nat → Nat) (t_conditions : Int32) (t_cases : Int32) (t_rules : Int32) (t_defaultAction : Int32) (t_sizes : Nat → Int32) (t_strides : Nat → Int32) (t_costs : Nat → Int32) (t_weights : Nat → Int32) (t_sets : Nat → Int32) (t_actions : Nat → Int32) (t_rulesWith : Nat → Int32) (x1 : Int32) (x2 : Int32) (t_sets_n : Nat → Int32) (t_actions_n : Nat → Int32) (hf : f_X4_moveRule t_sets t_actions x1 x2 = some (t_sets_n, t_actions_n)) : CM l yX4_moveRule wsX4_moveRule 1 60 sz D g [.ref (aT 0), .int x1, .int x2] (wX4 g aT t_conditions t_cases t_rules t_defaultAction t_sizes t_strides t_costs t_weights t_sets t_actions t_rulesWith) (QMv D (wX4 g aT t_conditions t_cases t_rules t_defaultAction t_sizes t_strides t_costs t_weights t_sets t_actions t_rulesWith) sz (wX4 g aT t_conditions t_cases t_rules t_defaultAction t_sizes t_strides t_costs t_weights t_sets_n t_actions_n t_rulesWith)) := by
  refine Met.ofW (cc := cX4_moveRule) (maxL := 3) (ret := none) (by decide) rfl ?_
  intro p e s m args below meth c s₁ B hml hv
  obtain ⟨rfl, hsz, hP, hK, hD0⟩ := hv
  have hx := B.exec
  have hb := B.bytes
  have hr := B.returns
  have hts := atoms_spec (ws := wsX4_moveRule) B.pre
  have hown : s.vm.findClass RX4 = some m.cls := findClass_of_methodNamed B.named
  have hlocks := B.notSynchronized
  have hh0 := (show ∀ w ∈ wsX40, w ∈ wsX4_moveRule from by decide +kernel)
  have hh1 := hts (.fieldLink RX4 24 "DecisionTableCompiler$Table" "sets" "[I") (by decide +kernel)
  have hh2 := hts (.methodLink RX4 52 arraycopyName) (by decide +kernel)
  have hh3 := hts (.native arraycopyName) (by decide +kernel)
  have hh4 := hts (.static arraycopyName) (by decide +kernel)
  have hh5 := hts (.initialized "java/lang/System") (by decide +kernel)
  have hh6 := hts (.fieldLink RX4 27 "DecisionTableCompiler$Table" "actions" "[I") (by decide +kernel)
  subst hsz
  have hD := hD0.self (sz := s.heap.size)
  have hA : ∀ q : Nat, s.heap.size ≤ q → va_A (wX4 g aT t_conditions t_cases t_rules t_defaultAction t_sizes t_strides t_costs t_weights t_sets t_actions t_rulesWith) s.heap.size q := fun q h => Or.inr h
  have hS : va_S (va_A (wX4 g aT t_conditions t_cases t_rules t_defaultAction t_sizes t_strides t_costs t_weights t_sets t_actions t_rulesWith) s.heap.size) s.heap s.heap [] := va_S.rf
  have hl := lv_entry ([.ref (aT 0), .int x1, .int x2]) (n := 3) (Nat.le_of_ble_eq_true rfl)
  rw [lg_entry_eq]
  generalize (lg_sl ([.ref (aT 0), .int x1, .int x2]) ++ List.replicate (3 - (lg_sl ([.ref (aT 0), .int x1, .int x2])).length) Slot.unset).toArray = ls at hl ⊢
  replace hl : lv_has ls 3 [(0, .ref (aT 0)), (1, .int x1), (2, .int x2)] := hl
  have h := hf
  unfold f_X4_moveRule at h
  obtain ⟨H, hH⟩ : ∃ H, H = s.heap := ⟨_, rfl⟩
  obtain ⟨locs, hlc⟩ : ∃ q : List Loc, q = [] := ⟨_, rfl⟩
  have hS : va_S (va_A (wX4 g aT t_conditions t_cases t_rules t_defaultAction t_sizes t_strides t_costs t_weights t_sets t_actions t_rulesWith) s.heap.size) s.heap H locs := by rw [hH, hlc]; exact hS
  replace hP : va_P D vwCl (wX4 g aT t_conditions t_cases t_rules t_defaultAction t_sizes t_strides t_costs t_weights t_sets t_actions t_rulesWith) H := by rw [hH]; exact hP
  suffices hW : W p l e (headSpec wsX4_moveRule ({ frames := 1, cells := 0, slots := 0, locals := 60 })).room s m ([.ref (aT 0), .int x1, .int x2] : List Value).toArray below meth c H locs 0 0 (MQ below (QMv D (wX4 g aT t_conditions t_cases t_rules t_defaultAction t_sizes t_strides t_costs t_weights t_sets t_actions t_rulesWith) s.heap.size (wX4 g aT t_conditions t_cases t_rules t_defaultAction t_sizes t_strides t_costs t_weights t_sets_n t_actions_n t_rulesWith)) ([.ref (aT 0), .int x1, .int x2] : List Value).toArray s 0 0 (va_A (wX4 g aT t_conditions t_cases t_rules t_defaultAction t_sizes t_strides t_costs t_weights t_sets t_actions t_rulesWith) s.heap.size)) (F0 m 0 ls []) by rw [hH, hlc] at hW; exact hW
  clear hH hlc
  refine lv_aload_n hx hb dX4_moveRule_0 rfl (lv_at hl 0 rfl) ?_
  refine va_get (D := D) (ci := 4) (v := .ref (aT 5)) (C := RX4) (T := TX4) (N := 11) hx hb hts hh0 hown hK.1 hP 0 rfl rfl 8 (by decide) hh1 (fun _ h9 => h9) rfl dX4_moveRule_1 ?_
  refine lv_iload_n hx hb dX4_moveRule_4 rfl (lv_at hl 1 rfl) ?_
  refine lv_iconst (v := 4) hx hb dX4_moveRule_5 (by decide) ?_
  refine lv_imul hx hb dX4_moveRule_6 ?_
  refine lv_aload_n hx hb dX4_moveRule_7 rfl (lv_at hl 0 rfl) ?_
  refine va_get (D := D) (ci := 4) (v := .ref (aT 5)) (C := RX4) (T := TX4) (N := 11) hx hb hts hh0 hown hK.1 hP 0 rfl rfl 8 (by decide) hh1 (fun _ h9 => h9) rfl dX4_moveRule_8 ?_
  refine lv_iload_n hx hb dX4_moveRule_11 rfl (lv_at hl 2 rfl) ?_
  refine lv_iconst (v := 4) hx hb dX4_moveRule_12 (by decide) ?_
  refine lv_imul hx hb dX4_moveRule_13 ?_
  refine lv_iconst (v := 4) hx hb dX4_moveRule_14 (by decide) ?_
  obtain ⟨hc15, h⟩ := cp_s h
  refine va_copyi hx hb (hml.trans hl.1.symm) hown hh2 hh3 hh4 hh5 hK.1 hP hD hS 5 5 0 0 rfl rfl rfl rfl rfl hc15.1 hc15.2.1 hc15.2.2.1 hc15.2.2.2.1 hc15.2.2.2.2 (fun _ _ => rfl) (Nat.le_of_ble_eq_true rfl) (Nat.le_of_ble_eq_true rfl) dX4_moveRule_15 (fun H locs hP hD hS => ?_)
  replace hP : va_P D vwCl (wX4 g aT t_conditions t_cases t_rules t_defaultAction t_sizes t_strides t_costs t_weights (va_cpy t_sets t_sets (x1 * (4 : Int32)).toNatClampNeg (x2 * (4 : Int32)).toNatClampNeg (4 : Int32).toNatClampNeg) t_actions t_rulesWith) H := hP
  replace hD : va_D (va_A (wX4 g aT t_conditions t_cases t_rules t_defaultAction t_sizes t_strides t_costs t_weights t_sets t_actions t_rulesWith) s.heap.size) (wX4 g aT t_conditions t_cases t_rules t_defaultAction t_sizes t_strides t_costs t_weights (va_cpy t_sets t_sets (x1 * (4 : Int32)).toNatClampNeg (x2 * (4 : Int32)).toNatClampNeg (4 : Int32).toNatClampNeg) t_actions t_rulesWith) := hD
  refine lv_aload_n hx hb dX4_moveRule_18 rfl (lv_at hl 0 rfl) ?_
  refine va_get (D := D) (ci := 4) (v := .ref (aT 6)) (C := RX4) (T := TX4) (N := 11) hx hb hts hh0 hown hK.1 hP 0 rfl rfl 9 (by decide) hh6 (fun _ h9 => h9) rfl dX4_moveRule_19 ?_
  refine lv_iload_n hx hb dX4_moveRule_22 rfl (lv_at hl 2 rfl) ?_
  refine lv_aload_n hx hb dX4_moveRule_23 rfl (lv_at hl 0 rfl) ?_
  refine va_get (D := D) (ci := 4) (v := .ref (aT 6)) (C := RX4) (T := TX4) (N := 11) hx hb hts hh0 hown hK.1 hP 0 rfl rfl 9 (by decide) hh6 (fun _ h9 => h9) rfl dX4_moveRule_24 ?_
  refine lv_iload_n hx hb dX4_moveRule_27 rfl (lv_at hl 1 rfl) ?_
  have iz28 := rd_in h
  refine va_iald hx hb hK.1 hP 6 0 rfl rfl (rd_in h) dX4_moveRule_28 (lv_topi (fun z28 ez28 => ?_))
  replace h := rd_k h ez28
  have ib29 := ix_in h
  replace h := ix_k h
  refine va_iast hx hb hK.1 hP hD hS 6 0 rfl rfl ib29 dX4_moveRule_29 (fun H locs hP hD hS => ?_)
  replace hP : va_P D vwCl (wX4 g aT t_conditions t_cases t_rules t_defaultAction t_sizes t_strides t_costs t_weights (va_cpy t_sets t_sets (x1 * (4 : Int32)).toNatClampNeg (x2 * (4 : Int32)).toNatClampNeg (4 : Int32).toNatClampNeg) (upd t_actions x2.toNatClampNeg z28) t_rulesWith) H := hP
  replace hD : va_D (va_A (wX4 g aT t_conditions t_cases t_rules t_defaultAction t_sizes t_strides t_costs t_weights t_sets t_actions t_rulesWith) s.heap.size) (wX4 g aT t_conditions t_cases t_rules t_defaultAction t_sizes t_strides t_costs t_weights (va_cpy t_sets t_sets (x1 * (4 : Int32)).toNatClampNeg (x2 * (4 : Int32)).toNatClampNeg (4 : Int32).toNatClampNeg) (upd t_actions x2.toNatClampNeg z28) t_rulesWith) := hD
  replace h := Option.some.inj h
  have hj0 := (Prod.mk.inj h).1
  have hg0 := (Prod.mk.inj h).2
  subst hj0
  subst hg0
  exact W.vret hx hb hr (fun t ht hW => ⟨⟨(), rfl, trivial, by rw [ht]; exact hP, hD⟩, hS.F ht⟩) hS.2.2 dX4_moveRule_30
theorem pd_X4_indexRules : yX4_indexRules.cls ≠ "java/lang/invoke/MethodHandle" ∧ yX4_indexRules.cls ≠ "java/lang/invoke/VarHandle" ∧ (parseMethodDescriptor yX4_indexRules.desc).map (fun d => d.parameters.length) = some 0 := by decide +kernel
def f_X4_indexRules_s27 (t_rules : Int32) (t_sets : Nat → Int32) (v1_2 : Int32) (v2_12 : Int32) (t_rulesWith_12 : Nat → Int32) (v3_27 : Int32) (v4_27 : Int32) : Option ((Int32 × Int32) ⊕ ((Int32 × (Nat → Int32)) ⊕ ((Int32 × (Nat → Int32)) ⊕ ((Nat → Int32))))) :=
  (if t_rules ≤ v4_27 then (ix 20 ((v1_2 * (5 : Int32)) + v2_12) (some (.inr (.inl ((v2_12 + 1), (upd t_rulesWith_12 ((v1_2 * (5 : Int32)) + v2_12).toNatClampNeg v3_27)))))) else (Option.bind (f_X4_setOf t_sets v4_27 v1_2) fun z41 => (nm (v3_27 ||| (((z41 >>> (v2_12 &&& 31)) &&& (1 : Int32)) <<< (v4_27 &&& 31))) fun z52 => (some (.inl (z52, (v4_27 + 1)))))))
def f_X4_indexRules_s12 (t_rules : Int32) (t_sizes : Nat → Int32) (t_sets : Nat → Int32) (v1_2 : Int32) (v2_12 : Int32) (t_rulesWith_12 : Nat → Int32) : Option ((Int32 × (Nat → Int32)) ⊕ ((Int32 × (Nat → Int32)) ⊕ ((Nat → Int32)))) :=
  (rd 4 t_sizes v1_2 fun z18 => (if z18 ≤ v2_12 then (some (.inr (.inl ((v1_2 + 1), t_rulesWith_12)))) else (wl (fun q => f_X4_indexRules_s27 t_rules t_sets v1_2 v2_12 t_rulesWith_12 q.1 q.2) 5000 ((0 : Int32), (0 : Int32)))))
def f_X4_indexRules_s2 (t_conditions : Int32) (t_rules : Int32) (t_sizes : Nat → Int32) (t_sets : Nat → Int32) (v1_2 : Int32) (t_rulesWith_2 : Nat → Int32) : Option ((Int32 × (Nat → Int32)) ⊕ ((Nat → Int32))) :=
  (if t_conditions ≤ v1_2 then (some (.inr t_rulesWith_2)) else (wl (fun q => f_X4_indexRules_s12 t_rules t_sizes t_sets v1_2 q.1 q.2) 5000 ((0 : Int32), t_rulesWith_2)))
def f_X4_indexRules (t_conditions : Int32) (t_rules : Int32) (t_sizes : Nat → Int32) (t_sets : Nat → Int32) (t_rulesWith : Nat → Int32) : Option ((Nat → Int32)) :=
  (wl (fun q => f_X4_indexRules_s2 t_conditions t_rules t_sizes t_sets q.1 q.2) 5000 ((0 : Int32), t_rulesWith))
set_option maxHeartbeats 4000000 in
set_option maxRecDepth 100000 in
theorem c_X4_indexRules (l : Launch) (sz : Nat) (D : va_G) (g : Nat → ClassId) (aT : Nat → Nat) (t_conditions : Int32) (t_cases : Int32) (t_rules : Int32) (t_defaultAction : Int32) (t_sizes : Nat → Int32) (t_strides : Nat → Int32) (t_costs : Nat → Int32) (t_weights : Nat → Int32) (t_sets : Nat → Int32) (t_actions : Nat → Int32) (t_rulesWith : Nat → Int32)  (t_rulesWith_n : Nat → Int32) (hf : f_X4_indexRules t_conditions t_rules t_sizes t_sets t_rulesWith = some t_rulesWith_n) : CM l yX4_indexRules wsX4_indexRules 1 22 sz D g [.ref (aT 0)] (wX4 g aT t_conditions t_cases t_rules t_defaultAction t_sizes t_strides t_costs t_weights t_sets t_actions t_rulesWith) (QMv D (wX4 g aT t_conditions t_cases t_rules t_defaultAction t_sizes t_strides t_costs t_weights t_sets t_actions t_rulesWith) sz (wX4 g aT t_conditions t_cases t_rules t_defaultAction t_sizes t_strides t_costs t_weights t_sets t_actions t_rulesWith_n)) := by
  refine Met.ofW (cc := cX4_indexRules) (maxL := 5) (ret := none) (by decide) rfl ?_
  intro p e s m args below meth c s₁ B hml hv
  obtain ⟨rfl, hsz, hP, hK, hD0⟩ := hv
  have hx := B.exec
  have hb := B.bytes
  have hr := B.returns
  have hts := atoms_spec (ws := wsX4_indexRules) B.pre
  have hown : s.vm.findClass RX4 = some m.cls := findClass_of_methodNamed B.named
  have hlocks := B.notSynchronized
  have hh0 := (show ∀ w ∈ wsX40, w ∈ wsX4_indexRules from by decide +kernel)
  have hh1 := hts (.fieldLink RX4 33 "DecisionTableCompiler$Table" "conditions" "I") (by decide +kernel)
  have hh2 := hts (.fieldLink RX4 9 "DecisionTableCompiler$Table" "sizes" "[I") (by decide +kernel)
  have hh3 := hts (.fieldLink RX4 40 "DecisionTableCompiler$Table" "rules" "I") (by decide +kernel)
  have hh4 := hts (.fieldLink RX4 30 "DecisionTableCompiler$Table" "rulesWith" "[I") (by decide +kernel)
  subst hsz
  have hD := hD0.self (sz := s.heap.size)
  have hA : ∀ q : Nat, s.heap.size ≤ q → va_A (wX4 g aT t_conditions t_cases t_rules t_defaultAction t_sizes t_strides t_costs t_weights t_sets t_actions t_rulesWith) s.heap.size q := fun q h => Or.inr h
  have hS : va_S (va_A (wX4 g aT t_conditions t_cases t_rules t_defaultAction t_sizes t_strides t_costs t_weights t_sets t_actions t_rulesWith) s.heap.size) s.heap s.heap [] := va_S.rf
  have hl := lv_entry ([.ref (aT 0)]) (n := 5) (Nat.le_of_ble_eq_true rfl)
  rw [lg_entry_eq]
  generalize (lg_sl ([.ref (aT 0)]) ++ List.replicate (5 - (lg_sl ([.ref (aT 0)])).length) Slot.unset).toArray = ls at hl ⊢
  replace hl : lv_has ls 5 [(0, .ref (aT 0))] := hl
  have h := hf
  unfold f_X4_indexRules at h
  obtain ⟨H, hH⟩ : ∃ H, H = s.heap := ⟨_, rfl⟩
  obtain ⟨locs, hlc⟩ : ∃ q : List Loc, q = [] := ⟨_, rfl⟩
  have hS : va_S (va_A (wX4 g aT t_conditions t_cases t_rules t_defaultAction t_sizes t_strides t_costs t_weights t_sets t_actions t_rulesWith) s.heap.size) s.heap H locs := by rw [hH, hlc]; exact hS
  replace hP : va_P D vwCl (wX4 g aT t_conditions t_cases t_rules t_defaultAction t_sizes t_strides t_costs t_weights t_sets t_actions t_rulesWith) H := by rw [hH]; exact hP
  suffices hW : W p l e (headSpec wsX4_indexRules ({ frames := 1, cells := 0, slots := 0, locals := 22 })).room s m ([.ref (aT 0)] : List Value).toArray below meth c H locs 0 0 (MQ below (QMv D (wX4 g aT t_conditions t_cases t_rules t_defaultAction t_sizes t_strides t_costs t_weights t_sets t_actions t_rulesWith) s.heap.size (wX4 g aT t_conditions t_cases t_rules t_defaultAction t_sizes t_strides t_costs t_weights t_sets t_actions t_rulesWith_n)) ([.ref (aT 0)] : List Value).toArray s 0 0 (va_A (wX4 g aT t_conditions t_cases t_rules t_defaultAction t_sizes t_strides t_costs t_weights t_sets t_actions t_rulesWith) s.heap.size)) (F0 m 0 ls []) by rw [hH, hlc] at hW; exact hW
  clear hH hlc
  refine lv_iconst (v := 0) hx hb dX4_indexRules_0 (by decide) ?_
  refine lv_istore_n (lv' := [(1, .int (0 : Int32)), (0, .ref (aT 0))]) hx hb dX4_indexRules_1 rfl hl (by decide) rfl (fun ls hl => ?_)
  have lp2 : ∀ (n : Nat) (v1_2 : Int32) (t_rulesWith_2 : Nat → Int32) (H : Heap) (locs : List Loc), va_P D vwCl (wX4 g aT t_conditions t_cases t_rules t_defaultAction t_sizes t_strides t_costs t_weights t_sets t_actions t_rulesWith_2) H → va_D (va_A (wX4 g aT t_conditions t_cases t_rules t_defaultAction t_sizes t_strides t_costs t_weights t_sets t_actions t_rulesWith) s.heap.size) (wX4 g aT t_conditions t_cases t_rules t_defaultAction t_sizes t_strides t_costs t_weights t_sets t_actions t_rulesWith_2) → va_S (va_A (wX4 g aT t_conditions t_cases t_rules t_defaultAction t_sizes t_strides t_costs t_weights t_sets t_actions t_rulesWith) s.heap.size) s.heap H locs → wl (fun q => f_X4_indexRules_s2 t_conditions t_rules t_sizes t_sets q.1 q.2) n (v1_2, t_rulesWith_2) = some t_rulesWith_n → ∀ ls : Array Slot, lv_has ls 5 [(1, .int v1_2), (0, .ref (aT 0))] → W p l e (headSpec wsX4_indexRules ({ frames := 1, cells := 0, slots := 0, locals := 22 })).room s m ([.ref (aT 0)] : List Value).toArray below meth c H locs 0 0 (MQ below (QMv D (wX4 g aT t_conditions t_cases t_rules t_defaultAction t_sizes t_strides t_costs t_weights t_sets t_actions t_rulesWith) s.heap.size (wX4 g aT t_conditions t_cases t_rules t_defaultAction t_sizes t_strides t_costs t_weights t_sets t_actions t_rulesWith_n)) ([.ref (aT 0)] : List Value).toArray s 0 0 (va_A (wX4 g aT t_conditions t_cases t_rules t_defaultAction t_sizes t_strides t_costs t_weights t_sets t_actions t_rulesWith) s.heap.size)) (F0 m 2 ls []) := by
    intro n
    induction n with
    | zero =>
      intro v1_2 t_rulesWith_2 H locs hP hD hS h
      exact wl_0 h
    | succ n ih1 =>
      intro v1_2 t_rulesWith_2 H locs hP hD hS h ls hl
      obtain ⟨o1, h, k1⟩ := wl_s h
      replace h : f_X4_indexRules_s2 t_conditions t_rules t_sizes t_sets v1_2 t_rulesWith_2 = some o1 := h
      unfold f_X4_indexRules_s2 at h
      refine lv_iload_n hx hb dX4_indexRules_2 rfl (lv_at hl 0 rfl) ?_
      refine lv_aload_n hx hb dX4_indexRules_3 rfl (lv_at hl 1 rfl) ?_
      refine va_get (D := D) (ci := 4) (v := .int t_conditions) (C := RX4) (T := TX4) (N := 11) hx hb hts hh0 hown hK.1 hP 0 rfl rfl 0 (by decide) hh1 (fun _ h9 => h9) rfl dX4_indexRules_4 ?_
      refine lv_icmp_ge (tgt := 82) hx hb dX4_indexRules_7 (by decide) (fun c7 => ?_) (fun c7 => ?_)
      · replace h := ite_t c7 h
        replace h := Option.some.inj h
        subst h
        replace h := wk_r k1
        subst h
        exact W.vret hx hb hr (fun t ht hW => ⟨⟨(), rfl, trivial, by rw [ht]; exact hP, hD⟩, hS.F ht⟩) hS.2.2 dX4_indexRules_82
      · replace h := ite_f c7 h
        refine lv_iconst (v := 0) hx hb dX4_indexRules_10 (by decide) ?_
        refine lv_istore_n (lv' := [(2, .int (0 : Int32)), (1, .int v1_2), (0, .ref (aT 0))]) hx hb dX4_indexRules_11 rfl hl (by decide) rfl (fun ls hl => ?_)
        have lp12 : ∀ (n : Nat) (v2_12 : Int32) (t_rulesWith_12 : Nat → Int32) (H : Heap) (locs : List Loc), va_P D vwCl (wX4 g aT t_conditions t_cases t_rules t_defaultAction t_sizes t_strides t_costs t_weights t_sets t_actions t_rulesWith_12) H → va_D (va_A (wX4 g aT t_conditions t_cases t_rules t_defaultAction t_sizes t_strides t_costs t_weights t_sets t_actions t_rulesWith) s.heap.size) (wX4 g aT t_conditions t_cases t_rules t_defaultAction t_sizes t_strides t_costs t_weights t_sets t_actions t_rulesWith_12) → va_S (va_A (wX4 g aT t_conditions t_cases t_rules t_defaultAction t_sizes t_strides t_costs t_weights t_sets t_actions t_rulesWith) s.heap.size) s.heap H locs → wl (fun q => f_X4_indexRules_s12 t_rules t_sizes t_sets v1_2 q.1 q.2) n (v2_12, t_rulesWith_12) = some o1 → ∀ ls : Array Slot, lv_has ls 5 [(2, .int v2_12), (1, .int v1_2), (0, .ref (aT 0))] → W p l e (headSpec wsX4_indexRules ({ frames := 1, cells := 0, slots := 0, locals := 22 })).room s m ([.ref (aT 0)] : List Value).toArray below meth c H locs 0 0 (MQ below (QMv D (wX4 g aT t_conditions t_cases t_rules t_defaultAction t_sizes t_strides t_costs t_weights t_sets t_actions t_rulesWith) s.heap.size (wX4 g aT t_conditions t_cases t_rules t_defaultAction t_sizes t_strides t_costs t_weights t_sets t_actions t_rulesWith_n)) ([.ref (aT 0)] : List Value).toArray s 0 0 (va_A (wX4 g aT t_conditions t_cases t_rules t_defaultAction t_sizes t_strides t_costs t_weights t_sets t_actions t_rulesWith) s.heap.size)) (F0 m 12 ls []) := by
          intro n
          induction n with
          | zero =>
            intro v2_12 t_rulesWith_12 H locs hP hD hS h
            exact wl_0 h
          | succ n ih2 =>
            intro v2_12 t_rulesWith_12 H locs hP hD hS h ls hl
            obtain ⟨o2, h, k2⟩ := wl_s h
            replace h : f_X4_indexRules_s12 t_rules t_sizes t_sets v1_2 v2_12 t_rulesWith_12 = some o2 := h
            unfold f_X4_indexRules_s12 at h
            refine lv_iload_n hx hb dX4_indexRules_12 rfl (lv_at hl 0 rfl) ?_
            refine lv_aload_n hx hb dX4_indexRules_13 rfl (lv_at hl 2 rfl) ?_
            refine va_get (D := D) (ci := 4) (v := .ref (aT 1)) (C := RX4) (T := TX4) (N := 11) hx hb hts hh0 hown hK.1 hP 0 rfl rfl 4 (by decide) hh2 (fun _ h9 => h9) rfl dX4_indexRules_14 ?_
            refine lv_iload_n hx hb dX4_indexRules_17 rfl (lv_at hl 1 rfl) ?_
            have iz18 := rd_in h
            refine va_iald hx hb hK.1 hP 1 0 rfl rfl (rd_in h) dX4_indexRules_18 (lv_topi (fun z18 ez18 => ?_))
            replace h := rd_k h ez18
            refine lv_icmp_ge (tgt := 76) hx hb dX4_indexRules_19 (by decide) (fun c19 => ?_) (fun c19 => ?_)
            · replace h := ite_t c19 h
              refine lv_iinc (v := (v1_2 + 1)) (lv' := [(1, .int (v1_2 + 1)), (2, .int v2_12), (0, .ref (aT 0))]) hx hb dX4_indexRules_76 hl (k := 1) rfl rfl (by decide) rfl (fun ls hl => ?_)
              refine lv_goto (tgt := 2) hx hb dX4_indexRules_79 (by decide) ?_
              replace h := Option.some.inj h
              subst h
              replace h := wk_r k2
              subst h
              exact ih1 (v1_2 + 1) t_rulesWith_12 H locs hP hD hS (wk_l k1) ls (lv_sub hl [0, 2] rfl)
            · replace h := ite_f c19 h
              refine lv_iconst (v := 0) hx hb dX4_indexRules_22 (by decide) ?_
              refine lv_istore_n (lv' := [(3, .int (0 : Int32)), (2, .int v2_12), (1, .int v1_2), (0, .ref (aT 0))]) hx hb dX4_indexRules_23 rfl hl (by decide) rfl (fun ls hl => ?_)
              refine lv_iconst (v := 0) hx hb dX4_indexRules_24 (by decide) ?_
              refine lv_istore (lv' := [(4, .int (0 : Int32)), (3, .int (0 : Int32)), (2, .int v2_12), (1, .int v1_2), (0, .ref (aT 0))]) hx hb dX4_indexRules_25 hl (by decide) rfl (fun ls hl => ?_)
              have lp27 : ∀ (n : Nat) (v3_27 : Int32) (v4_27 : Int32), wl (fun q => f_X4_indexRules_s27 t_rules t_sets v1_2 v2_12 t_rulesWith_12 q.1 q.2) n (v3_27, v4_27) = some o2 → ∀ ls : Array Slot, lv_has ls 5 [(4, .int v4_27), (3, .int v3_27), (2, .int v2_12), (1, .int v1_2), (0, .ref (aT 0))] → W p l e (headSpec wsX4_indexRules ({ frames := 1, cells := 0, slots := 0, locals := 22 })).room s m ([.ref (aT 0)] : List Value).toArray below meth c H locs 0 0 (MQ below (QMv D (wX4 g aT t_conditions t_cases t_rules t_defaultAction t_sizes t_strides t_costs t_weights t_sets t_actions t_rulesWith) s.heap.size (wX4 g aT t_conditions t_cases t_rules t_defaultAction t_sizes t_strides t_costs t_weights t_sets t_actions t_rulesWith_n)) ([.ref (aT 0)] : List Value).toArray s 0 0 (va_A (wX4 g aT t_conditions t_cases t_rules t_defaultAction t_sizes t_strides t_costs t_weights t_sets t_actions t_rulesWith) s.heap.size)) (F0 m 27 ls []) := by
                intro n
                induction n with
                | zero =>
                  intro v3_27 v4_27 h
                  exact wl_0 h
                | succ n ih3 =>
                  intro v3_27 v4_27 h ls hl
                  obtain ⟨o3, h, k3⟩ := wl_s h
                  replace h : f_X4_indexRules_s27 t_rules t_sets v1_2 v2_12 t_rulesWith_12 v3_27 v4_27 = some o3 := h
                  unfold f_X4_indexRules_s27 at h
                  refine lv_iload hx hb dX4_indexRules_27 (lv_at hl 0 rfl) ?_
                  refine lv_aload_n hx hb dX4_indexRules_29 rfl (lv_at hl 4 rfl) ?_
                  refine va_get (D := D) (ci := 4) (v := .int t_rules) (C := RX4) (T := TX4) (N := 11) hx hb hts hh0 hown hK.1 hP 0 rfl rfl 2 (by decide) hh3 (fun _ h9 => h9) rfl dX4_indexRules_30 ?_
                  refine lv_icmp_ge (tgt := 59) hx hb dX4_indexRules_33 (by decide) (fun c33 => ?_) (fun c33 => ?_)
                  · replace h := ite_t c33 h
                    refine lv_aload_n hx hb dX4_indexRules_59 rfl (lv_at hl 4 rfl) ?_
                    refine va_get (D := D) (ci := 4) (v := .ref (aT 7)) (C := RX4) (T := TX4) (N := 11) hx hb hts hh0 hown hK.1 hP 0 rfl rfl 10 (by decide) hh4 (fun _ h9 => h9) rfl dX4_indexRules_60 ?_
                    refine lv_iload_n hx hb dX4_indexRules_63 rfl (lv_at hl 3 rfl) ?_
                    refine lv_iconst (v := 5) hx hb dX4_indexRules_64 (by decide) ?_
                    refine lv_imul hx hb dX4_indexRules_65 ?_
                    refine lv_iload_n hx hb dX4_indexRules_66 rfl (lv_at hl 2 rfl) ?_
                    refine lv_iadd hx hb dX4_indexRules_67 ?_
                    refine lv_iload_n hx hb dX4_indexRules_68 rfl (lv_at hl 1 rfl) ?_
                    have ib69 := ix_in h
                    replace h := ix_k h
                    refine va_iast hx hb hK.1 hP hD hS 7 0 rfl rfl ib69 dX4_indexRules_69 (fun H locs hP hD hS => ?_)
                    replace hP : va_P D vwCl (wX4 g aT t_conditions t_cases t_rules t_defaultAction t_sizes t_strides t_costs t_weights t_sets t_actions (upd t_rulesWith_12 ((v1_2 * (5 : Int32)) + v2_12).toNatClampNeg v3_27)) H := hP
                    replace hD : va_D (va_A (wX4 g aT t_conditions t_cases t_rules t_defaultAction t_sizes t_strides t_costs t_weights t_sets t_actions t_rulesWith) s.heap.size) (wX4 g aT t_conditions t_cases t_rules t_defaultAction t_sizes t_strides t_costs t_weights t_sets t_actions (upd t_rulesWith_12 ((v1_2 * (5 : Int32)) + v2_12).toNatClampNeg v3_27)) := hD
                    refine lv_iinc (v := (v2_12 + 1)) (lv' := [(2, .int (v2_12 + 1)), (4, .int v4_27), (3, .int v3_27), (1, .int v1_2), (0, .ref (aT 0))]) hx hb dX4_indexRules_70 hl (k := 2) rfl rfl (by decide) rfl (fun ls hl => ?_)
                    refine lv_goto (tgt := 12) hx hb dX4_indexRules_73 (by decide) ?_
                    replace h := Option.some.inj h
                    subst h
                    replace h := wk_r k3
                    subst h
                    exact ih2 (v2_12 + 1) (upd t_rulesWith_12 ((v1_2 * (5 : Int32)) + v2_12).toNatClampNeg v3_27) H locs hP hD hS (wk_l k2) ls (lv_sub hl [0, 3, 4] rfl)
                  · replace h := ite_f c33 h
                    refine lv_iload_n hx hb dX4_indexRules_36 rfl (lv_at hl 1 rfl) ?_
                    refine lv_aload_n hx hb dX4_indexRules_37 rfl (lv_at hl 4 rfl) ?_
                    refine lv_iload hx hb dX4_indexRules_38 (lv_at hl 0 rfl) ?_
                    refine lv_iload_n hx hb dX4_indexRules_40 rfl (lv_at hl 3 rfl) ?_
                    obtain ⟨z41, e_41, h⟩ := bd_s h
                    refine cr_i (va_runV (As := [.int v4_27, .int v1_2]) (rest := [.int v3_27]) ⟨hx, hb, hml, hown, hts⟩ (c_X4_setOf l D g aT t_conditions t_cases t_rules t_defaultAction t_sizes t_strides t_costs t_weights t_sets t_actions t_rulesWith_12 v4_27 v1_2 z41 e_41) (cwV 2 hts gX4_indexRules_X4_setOf rfl rfl rfl ⟨rfl, pd_X4_setOf⟩ ⟨Nat.le_of_ble_eq_true rfl, Nat.le_of_ble_eq_true rfl⟩) (pr_v hK hP (q0 := 0) (ci := 4) rfl rfl rfl) rfl rfl hl.1 rfl (lv_room (Nat.le_of_ble_eq_true rfl)) dX4_indexRules_41 ⟨Nat.zero_le _, Nat.zero_le _⟩) ?_
                    refine lv_iload_n hx hb dX4_indexRules_44 rfl (lv_at hl 2 rfl) ?_
                    refine lv_ishr hx hb dX4_indexRules_45 ?_
                    refine lv_iconst (v := 1) hx hb dX4_indexRules_46 (by decide) ?_
                    refine lv_iand hx hb dX4_indexRules_47 ?_
                    refine lv_iload hx hb dX4_indexRules_48 (lv_at hl 0 rfl) ?_
                    refine lv_ishl hx hb dX4_indexRules_50 ?_
                    refine lv_ior hx hb dX4_indexRules_51 ?_
                    refine lv_topi (fun z52 ez52 => ?_)
                    replace h := nm_n h ez52
                    refine lv_istore_n (lv' := [(3, .int z52), (4, .int v4_27), (2, .int v2_12), (1, .int v1_2), (0, .ref (aT 0))]) hx hb dX4_indexRules_52 rfl hl (by decide) rfl (fun ls hl => ?_)
                    refine lv_iinc (v := (v4_27 + 1)) (lv' := [(4, .int (v4_27 + 1)), (3, .int z52), (2, .int v2_12), (1, .int v1_2), (0, .ref (aT 0))]) hx hb dX4_indexRules_53 hl (k := 1) rfl rfl (by decide) rfl (fun ls hl => ?_)
                    refine lv_goto (tgt := 27) hx hb dX4_indexRules_56 (by decide) ?_
                    replace h := Option.some.inj h
                    subst h
                    exact ih3 z52 (v4_27 + 1) (wk_l k3) ls (lv_sub hl [0, 1, 2, 3, 4] rfl)
              exact lp27 5000 (0 : Int32) (0 : Int32) h ls (lv_sub hl [0, 1, 2, 3, 4] rfl)
        exact lp12 5000 (0 : Int32) t_rulesWith_2 H locs hP hD hS h ls (lv_sub hl [0, 1, 2] rfl)
  exact lp2 5000 (0 : Int32) t_rulesWith H locs hP hD hS h ls (lv_sub hl [0, 1] rfl)
theorem pd_X4_putRule : yX4_putRule.cls ≠ "java/lang/invoke/MethodHandle" ∧ yX4_putRule.cls ≠ "java/lang/invoke/VarHandle" ∧ (parseMethodDescriptor yX4_putRule.desc).map (fun d => d.parameters.length) = some 2 := by decide +kernel
def f_X4_putRule_s5 (t_conditions : Int32) (t_rules : Int32) (t_sizes : Nat → Int32) (t_rulesWith : Nat → Int32) (r_action : Int32) (r_sets : Nat → Int32) (x1 : Int32) (v3_5 : Int32) (t_sets_5 : Nat → Int32) (t_actions_5 : Nat → Int32) : Option ((Int32 × (Nat → Int32) × (Nat → Int32)) ⊕ (Int32 × (Nat → Int32) × (Nat → Int32) × (Nat → Int32))) :=
  (if v3_5 ≤ x1 then (cp 4 48 (0 : Int32) (x1 * (4 : Int32)) (4 : Int32) (ix 12 x1 (Option.bind (f_X4_indexRules t_conditions (t_rules + (1 : Int32)) t_sizes (va_cpy r_sets t_sets_5 (0 : Int32).toNatClampNeg (x1 * (4 : Int32)).toNatClampNeg (4 : Int32).toNatClampNeg) t_rulesWith) fun w61_0 => (some (.inr ((t_rules + (1 : Int32)), (va_cpy r_sets t_sets_5 (0 : Int32).toNatClampNeg (x1 * (4 : Int32)).toNatClampNeg (4 : Int32).toNatClampNeg), (upd t_actions_5 x1.toNatClampNeg r_action), w61_0)))))) else (bd2 (f_X4_moveRule t_sets_5 t_actions_5 (v3_5 - (1 : Int32)) v3_5) fun w15_0 w15_1 => (some (.inl ((v3_5 + (-1)), w15_0, w15_1)))))
def f_X4_putRule (t_conditions : Int32) (t_rules : Int32) (t_sizes : Nat → Int32) (t_sets : Nat → Int32) (t_actions : Nat → Int32) (t_rulesWith : Nat → Int32) (r_action : Int32) (r_sets : Nat → Int32) (x1 : Int32) : Option (Int32 × (Nat → Int32) × (Nat → Int32) × (Nat → Int32)) :=
  (wl (fun q => f_X4_putRule_s5 t_conditions t_rules t_sizes t_rulesWith r_action r_sets x1 q.1 q.2.1 q.2.2) 5000 (t_rules, t_sets, t_actions))
set_option maxHeartbeats 4000000 in
set_option maxRecDepth 100000 in
theorem c_X4_putRule (l : Launch) (sz : Nat) (D : va_G) (g : Nat → ClassId) (aT aR : Nat → Nat) (t_conditions : Int32) (t_cases : Int32) (t_rules : Int32) (t_defaultAction : Int32) (t_sizes : Nat → Int32) (t_strides : Nat → Int32) (t_costs : Nat → Int32) (t_weights : Nat → Int32) (t_sets : Nat → Int32) (t_actions : Nat → Int32) (t_rulesWith : Nat → Int32) (r_action : Int32) (r_sets : Nat → Int32) (r_state : Int32) (r_condition : Int32) (x1 : Int32) (t_rules_n : Int32) (t_sets_n : Nat → Int32) (t_actions_n : Nat → Int32) (t_rulesWith_n : Nat → Int32) (hf : f_X4_putRule t_conditions t_rules t_sizes t_sets t_actions t_rulesWith r_action r_sets x1 = some (t_rules_n, t_sets_n, t_actions_n, t_rulesWith_n)) : CM l yX4_putRule wsX4_putRule 2 82 sz D g [.ref (aT 0), .int x1, .ref (aR 0)] (wX4 g aT t_conditions t_cases t_rules t_defaultAction t_sizes t_strides t_costs t_weights t_sets t_actions t_rulesWith ++ (wX2 g aR r_action r_sets r_state r_condition)) (QMv D (wX4 g aT t_conditions t_cases t_rules t_defaultAction t_sizes t_strides t_costs t_weights t_sets t_actions t_rulesWith ++ (wX2 g aR r_action r_sets r_state r_condition)) sz (wX4 g aT t_conditions t_cases t_rules_n t_defaultAction t_sizes t_strides t_costs t_weights t_sets_n t_actions_n t_rulesWith_n ++ (wX2 g aR r_action r_sets r_state r_condition))) := by
  refine Met.ofW (cc := cX4_putRule) (maxL := 4) (ret := none) (by decide) rfl ?_
  intro p e s m args below meth c s₁ B hml hv
  obtain ⟨rfl, hsz, hP, hK, hD0⟩ := hv
  have hx := B.exec
  have hb := B.bytes
  have hr := B.returns
  have hts := atoms_spec (ws := wsX4_putRule) B.pre
  have hown : s.vm.findClass RX4 = some m.cls := findClass_of_methodNamed B.named
  have hlocks := B.notSynchronized
  have hh0 := (show ∀ w ∈ wsX40, w ∈ wsX4_putRule from by decide +kernel)
  have hh1 := hts (.fieldLink RX4 40 "DecisionTableCompiler$Table" "rules" "I") (by decide +kernel)
  have hh2 := (show ∀ w ∈ wsX20, w ∈ wsX4_putRule from by decide +kernel)
  have hh3 := hts (.fieldLink RX4 89 "DecisionTableCompiler$RuleText" "sets" "[I") (by decide +kernel)
  have hh4 := hts (.fieldLink RX4 24 "DecisionTableCompiler$Table" "sets" "[I") (by decide +kernel)
  have hh5 := hts (.methodLink RX4 52 arraycopyName) (by decide +kernel)
  have hh6 := hts (.native arraycopyName) (by decide +kernel)
  have hh7 := hts (.static arraycopyName) (by decide +kernel)
  have hh8 := hts (.initialized "java/lang/System") (by decide +kernel)
  have hh9 := hts (.fieldLink RX4 27 "DecisionTableCompiler$Table" "actions" "[I") (by decide +kernel)
  have hh10 := hts (.fieldLink RX4 92 "DecisionTableCompiler$RuleText" "action" "I") (by decide +kernel)
  subst hsz
  have hD := hD0.self (sz := s.heap.size)
  have hA : ∀ q : Nat, s.heap.size ≤ q → va_A (wX4 g aT t_conditions t_cases t_rules t_defaultAction t_sizes t_strides t_costs t_weights t_sets t_actions t_rulesWith ++ (wX2 g aR r_action r_sets r_state r_condition)) s.heap.size q := fun q h => Or.inr h
  have hS : va_S (va_A (wX4 g aT t_conditions t_cases t_rules t_defaultAction t_sizes t_strides t_costs t_weights t_sets t_actions t_rulesWith ++ (wX2 g aR r_action r_sets r_state r_condition)) s.heap.size) s.heap s.heap [] := va_S.rf
  have hl := lv_entry ([.ref (aT 0), .int x1, .ref (aR 0)]) (n := 4) (Nat.le_of_ble_eq_true rfl)
  rw [lg_entry_eq]
  generalize (lg_sl ([.ref (aT 0), .int x1, .ref (aR 0)]) ++ List.replicate (4 - (lg_sl ([.ref (aT 0), .int x1, .ref (aR 0)])).length) Slot.unset).toArray = ls at hl ⊢
  replace hl : lv_has ls 4 [(0, .ref (aT 0)), (1, .int x1), (2, .ref (aR 0))] := hl
  have h := hf
  unfold f_X4_putRule at h
  obtain ⟨H, hH⟩ : ∃ H, H = s.heap := ⟨_, rfl⟩
  obtain ⟨locs, hlc⟩ : ∃ q : List Loc, q = [] := ⟨_, rfl⟩
  have hS : va_S (va_A (wX4 g aT t_conditions t_cases t_rules t_defaultAction t_sizes t_strides t_costs t_weights t_sets t_actions t_rulesWith ++ (wX2 g aR r_action r_sets r_state r_condition)) s.heap.size) s.heap H locs := by rw [hH, hlc]; exact hS
  replace hP : va_P D vwCl (wX4 g aT t_conditions t_cases t_rules t_defaultAction t_sizes t_strides t_costs t_weights t_sets t_actions t_rulesWith ++ (wX2 g aR r_action r_sets r_state r_condition)) H := by rw [hH]; exact hP
  suffices hW : W p l e (headSpec wsX4_putRule ({ frames := 2, cells := 0, slots := 0, locals := 82 })).room s m ([.ref (aT 0), .int x1, .ref (aR 0)] : List Value).toArray below meth c H locs 0 0 (MQ below (QMv D (wX4 g aT t_conditions t_cases t_rules t_defaultAction t_sizes t_strides t_costs t_weights t_sets t_actions t_rulesWith ++ (wX2 g aR r_action r_sets r_state r_condition)) s.heap.size (wX4 g aT t_conditions t_cases t_rules_n t_defaultAction t_sizes t_strides t_costs t_weights t_sets_n t_actions_n t_rulesWith_n ++ (wX2 g aR r_action r_sets r_state r_condition))) ([.ref (aT 0), .int x1, .ref (aR 0)] : List Value).toArray s 0 0 (va_A (wX4 g aT t_conditions t_cases t_rules t_defaultAction t_sizes t_strides t_costs t_weights t_sets t_actions t_rulesWith ++ (wX2 g aR r_action r_sets r_state r_condition)) s.heap.size)) (F0 m 0 ls []) by rw [hH, hlc] at hW; exact hW
  clear hH hlc
  refine lv_aload_n hx hb dX4_putRule_0 rfl (lv_at hl 0 rfl) ?_
  refine va_get (D := D) (ci := 4) (v := .int t_rules) (C := RX4) (T := TX4) (N := 11) hx hb hts hh0 hown hK.1 hP 0 rfl rfl 2 (by decide) hh1 (fun _ h9 => h9) rfl dX4_putRule_1 ?_
  refine lv_istore_n (lv' := [(3, .int t_rules), (0, .ref (aT 0)), (1, .int x1), (2, .ref (aR 0))]) hx hb dX4_putRule_4 rfl hl (by decide) rfl (fun ls hl => ?_)
  have lp5 : ∀ (n : Nat) (v3_5 : Int32) (t_sets_5 : Nat → Int32) (t_actions_5 : Nat → Int32) (H : Heap) (locs : List Loc), va_P D vwCl (wX4 g aT t_conditions t_cases t_rules t_defaultAction t_sizes t_strides t_costs t_weights t_sets_5 t_actions_5 t_rulesWith ++ (wX2 g aR r_action r_sets r_state r_condition)) H → va_D (va_A (wX4 g aT t_conditions t_cases t_rules t_defaultAction t_sizes t_strides t_costs t_weights t_sets t_actions t_rulesWith ++ (wX2 g aR r_action r_sets r_state r_condition)) s.heap.size) (wX4 g aT t_conditions t_cases t_rules t_defaultAction t_sizes t_strides t_costs t_weights t_sets_5 t_actions_5 t_rulesWith ++ (wX2 g aR r_action r_sets r_state r_condition)) → va_S (va_A (wX4 g aT t_conditions t_cases t_rules t_defaultAction t_sizes t_strides t_costs t_weights t_sets t_actions t_rulesWith ++ (wX2 g aR r_action r_sets r_state r_condition)) s.heap.size) s.heap H locs → wl (fun q => f_X4_putRule_s5 t_conditions t_rules t_sizes t_rulesWith r_action r_sets x1 q.1 q.2.1 q.2.2) n (v3_5, t_sets_5, t_actions_5) = some (t_rules_n, t_sets_n, t_actions_n, t_rulesWith_n) → ∀ ls : Array Slot, lv_has ls 4 [(3, .int v3_5), (0, .ref (aT 0)), (1, .int x1), (2, .ref (aR 0))] → W p l e (headSpec wsX4_putRule ({ frames := 2, cells := 0, slots := 0, locals := 82 })).room s m ([.ref (aT 0), .int x1, .ref (aR 0)] : List Value).toArray below meth c H locs 0 0 (MQ below (QMv D (wX4 g aT t_conditions t_cases t_rules t_defaultAction t_sizes t_strides t_costs t_weights t_sets t_actions t_rulesWith ++ (wX2 g aR r_action r_sets r_state r_condition)) s.heap.size (wX4 g aT t_conditions t_cases t_rules_n t_defaultAction t_sizes t_strides t_costs t_weights t_sets_n t_actions_n t_rulesWith_n ++ (wX2 g aR r_action r_sets r_state r_condition))) ([.ref (aT 0), .int x1, .ref (aR 0)] : List Value).toArray s 0 0 (va_A (wX4 g aT t_conditions t_cases t_rules t_defaultAction t_sizes t_strides t_costs t_weights t_sets t_actions t_rulesWith ++ (wX2 g aR r_action r_sets r_state r_condition)) s.heap.size)) (F0 m 5 ls []) := by
    intro n
    induction n with
    | zero =>
      intro v3_5 t_sets_5 t_actions_5 H locs hP hD hS h
      exact wl_0 h
    | succ n ih1 =>
      intro v3_5 t_sets_5 t_actions_5 H locs hP hD hS h ls hl
      obtain ⟨o1, h, k1⟩ := wl_s h
      replace h : f_X4_putRule_s5 t_conditions t_rules t_sizes t_rulesWith r_action r_sets x1 v3_5 t_sets_5 t_actions_5 = some o1 := h
      unfold f_X4_putRule_s5 at h
      refine lv_iload_n hx hb dX4_putRule_5 rfl (lv_at hl 0 rfl) ?_
      refine lv_iload_n hx hb dX4_putRule_6 rfl (lv_at hl 2 rfl) ?_
      refine lv_icmp_le (tgt := 24) hx hb dX4_putRule_7 (by decide) (fun c7 => ?_) (fun c7 => ?_)
      · replace h := ite_t c7 h
        refine lv_aload_n hx hb dX4_putRule_24 rfl (lv_at hl 3 rfl) ?_
        refine va_get (D := D) (ci := 2) (v := .ref (aR 1)) (C := RX2) (T := TX2) (N := 4) hx hb hts hh2 hown hK.1 hP 8 rfl rfl 1 (by decide) hh3 (fun _ h9 => h9) rfl dX4_putRule_25 ?_
        refine lv_iconst (v := 0) hx hb dX4_putRule_28 (by decide) ?_
        refine lv_aload_n hx hb dX4_putRule_29 rfl (lv_at hl 1 rfl) ?_
        refine va_get (D := D) (ci := 4) (v := .ref (aT 5)) (C := RX4) (T := TX4) (N := 11) hx hb hts hh0 hown hK.1 hP 0 rfl rfl 8 (by decide) hh4 (fun _ h9 => h9) rfl dX4_putRule_30 ?_
        refine lv_iload_n hx hb dX4_putRule_33 rfl (lv_at hl 2 rfl) ?_
        refine lv_iconst (v := 4) hx hb dX4_putRule_34 (by decide) ?_
        refine lv_imul hx hb dX4_putRule_35 ?_
        refine lv_iconst (v := 4) hx hb dX4_putRule_36 (by decide) ?_
        obtain ⟨hc37, h⟩ := cp_s h
        refine va_copyi hx hb (hml.trans hl.1.symm) hown hh5 hh6 hh7 hh8 hK.1 hP hD hS 9 5 0 0 rfl rfl rfl rfl rfl hc37.1 hc37.2.1 hc37.2.2.1 hc37.2.2.2.1 hc37.2.2.2.2 (fun _ _ => rfl) (Nat.le_of_ble_eq_true rfl) (Nat.le_of_ble_eq_true rfl) dX4_putRule_37 (fun H locs hP hD hS => ?_)
        replace hP : va_P D vwCl (wX4 g aT t_conditions t_cases t_rules t_defaultAction t_sizes t_strides t_costs t_weights (va_cpy r_sets t_sets_5 (0 : Int32).toNatClampNeg (x1 * (4 : Int32)).toNatClampNeg (4 : Int32).toNatClampNeg) t_actions_5 t_rulesWith ++ (wX2 g aR r_action r_sets r_state r_condition)) H := hP
        replace hD : va_D (va_A (wX4 g aT t_conditions t_cases t_rules t_defaultAction t_sizes t_strides t_costs t_weights t_sets t_actions t_rulesWith ++ (wX2 g aR r_action r_sets r_state r_condition)) s.heap.size) (wX4 g aT t_conditions t_cases t_rules t_defaultAction t_sizes t_strides t_costs t_weights (va_cpy r_sets t_sets_5 (0 : Int32).toNatClampNeg (x1 * (4 : Int32)).toNatClampNeg (4 : Int32).toNatClampNeg) t_actions_5 t_rulesWith ++ (wX2 g aR r_action r_sets r_state r_condition)) := hD
        refine lv_aload_n hx hb dX4_putRule_40 rfl (lv_at hl 1 rfl) ?_
        refine va_get (D := D) (ci := 4) (v := .ref (aT 6)) (C := RX4) (T := TX4) (N := 11) hx hb hts hh0 hown hK.1 hP 0 rfl rfl 9 (by decide) hh9 (fun _ h9 => h9) rfl dX4_putRule_41 ?_
        refine lv_iload_n hx hb dX4_putRule_44 rfl (lv_at hl 2 rfl) ?_
        refine lv_aload_n hx hb dX4_putRule_45 rfl (lv_at hl 3 rfl) ?_
        refine va_get (D := D) (ci := 2) (v := .int r_action) (C := RX2) (T := TX2) (N := 4) hx hb hts hh2 hown hK.1 hP 8 rfl rfl 0 (by decide) hh10 (fun _ h9 => h9) rfl dX4_putRule_46 ?_
        have ib49 := ix_in h
        replace h := ix_k h
        refine va_iast hx hb hK.1 hP hD hS 6 0 rfl rfl ib49 dX4_putRule_49 (fun H locs hP hD hS => ?_)
        replace hP : va_P D vwCl (wX4 g aT t_conditions t_cases t_rules t_defaultAction t_sizes t_strides t_costs t_weights (va_cpy r_sets t_sets_5 (0 : Int32).toNatClampNeg (x1 * (4 : Int32)).toNatClampNeg (4 : Int32).toNatClampNeg) (upd t_actions_5 x1.toNatClampNeg r_action) t_rulesWith ++ (wX2 g aR r_action r_sets r_state r_condition)) H := hP
        replace hD : va_D (va_A (wX4 g aT t_conditions t_cases t_rules t_defaultAction t_sizes t_strides t_costs t_weights t_sets t_actions t_rulesWith ++ (wX2 g aR r_action r_sets r_state r_condition)) s.heap.size) (wX4 g aT t_conditions t_cases t_rules t_defaultAction t_sizes t_strides t_costs t_weights (va_cpy r_sets t_sets_5 (0 : Int32).toNatClampNeg (x1 * (4 : Int32)).toNatClampNeg (4 : Int32).toNatClampNeg) (upd t_actions_5 x1.toNatClampNeg r_action) t_rulesWith ++ (wX2 g aR r_action r_sets r_state r_condition)) := hD
        refine lv_aload_n hx hb dX4_putRule_50 rfl (lv_at hl 1 rfl) ?_
        refine lv_dup hx hb dX4_putRule_51 rfl ?_
        refine va_get (D := D) (ci := 4) (v := .int t_rules) (C := RX4) (T := TX4) (N := 11) hx hb hts hh0 hown hK.1 hP 0 rfl rfl 2 (by decide) hh1 (fun _ h9 => h9) rfl dX4_putRule_52 ?_
        refine lv_iconst (v := 1) hx hb dX4_putRule_55 (by decide) ?_
        refine lv_iadd hx hb dX4_putRule_56 ?_
        refine va_put (D := D) (ci := 4) (v := .int (t_rules + (1 : Int32))) (ty := .int) (C := RX4) (T := TX4) (N := 11) hx hb hts hh0 tyX4 tyX4_ok nmX4 hown hK.1 hP hD hS 0 rfl rfl 2 (by decide) hh1 (fun _ h9 => h9) rfl (by decide +kernel) rfl rfl (Nat.le_of_ble_eq_true rfl) dX4_putRule_57 (fun H locs hP hD hS => ?_)
        replace hP : va_P D vwCl (wX4 g aT t_conditions t_cases (t_rules + (1 : Int32)) t_defaultAction t_sizes t_strides t_costs t_weights (va_cpy r_sets t_sets_5 (0 : Int32).toNatClampNeg (x1 * (4 : Int32)).toNatClampNeg (4 : Int32).toNatClampNeg) (upd t_actions_5 x1.toNatClampNeg r_action) t_rulesWith ++ (wX2 g aR r_action r_sets r_state r_condition)) H := hP
        replace hD : va_D (va_A (wX4 g aT t_conditions t_cases t_rules t_defaultAction t_sizes t_strides t_costs t_weights t_sets t_actions t_rulesWith ++ (wX2 g aR r_action r_sets r_state r_condition)) s.heap.size) (wX4 g aT t_conditions t_cases (t_rules + (1 : Int32)) t_defaultAction t_sizes t_strides t_costs t_weights (va_cpy r_sets t_sets_5 (0 : Int32).toNatClampNeg (x1 * (4 : Int32)).toNatClampNeg (4 : Int32).toNatClampNeg) (upd t_actions_5 x1.toNatClampNeg r_action) t_rulesWith ++ (wX2 g aR r_action r_sets r_state r_condition)) := hD
        refine lv_aload_n hx hb dX4_putRule_60 rfl (lv_at hl 1 rfl) ?_
        obtain ⟨w61_0, e_61, h⟩ := bd_s h
        refine cm_v (ws := (wX4 g aT t_conditions t_cases (t_rules + (1 : Int32)) t_defaultAction t_sizes t_strides t_costs t_weights (va_cpy r_sets t_sets_5 (0 : Int32).toNatClampNeg (x1 * (4 : Int32)).toNatClampNeg (4 : Int32).toNatClampNeg) (upd t_actions_5 x1.toNatClampNeg r_action) t_rulesWith ++ (wX2 g aR r_action r_sets r_state r_condition))) (isC := [0, 1, 2, 3, 4, 5, 6, 7]) (va_runV (As := []) (rest := []) ⟨hx, hb, hml, hown, hts⟩ (c_X4_indexRules l H.size D g aT t_conditions t_cases (t_rules + (1 : Int32)) t_defaultAction t_sizes t_strides t_costs t_weights (va_cpy r_sets t_sets_5 (0 : Int32).toNatClampNeg (x1 * (4 : Int32)).toNatClampNeg (4 : Int32).toNatClampNeg) (upd t_actions_5 x1.toNatClampNeg r_action) t_rulesWith w61_0 e_61) (cwV 0 hts gX4_putRule_X4_indexRules rfl rfl rfl ⟨rfl, pd_X4_indexRules⟩ ⟨Nat.le_of_ble_eq_true rfl, Nat.le_of_ble_eq_true rfl⟩) (pw_v hK (hP.sub (ws' := (wX4 g aT t_conditions t_cases (t_rules + (1 : Int32)) t_defaultAction t_sizes t_strides t_costs t_weights (va_cpy r_sets t_sets_5 (0 : Int32).toNatClampNeg (x1 * (4 : Int32)).toNatClampNeg (4 : Int32).toNatClampNeg) (upd t_actions_5 x1.toNatClampNeg r_action) t_rulesWith)) [0, 1, 2, 3, 4, 5, 6, 7] rfl) (hD.sub (ws' := (wX4 g aT t_conditions t_cases (t_rules + (1 : Int32)) t_defaultAction t_sizes t_strides t_costs t_weights (va_cpy r_sets t_sets_5 (0 : Int32).toNatClampNeg (x1 * (4 : Int32)).toNatClampNeg (4 : Int32).toNatClampNeg) (upd t_actions_5 x1.toNatClampNeg r_action) t_rulesWith)) [0, 1, 2, 3, 4, 5, 6, 7] (by decide) rfl) (q0 := 0) (ci := 4) rfl rfl rfl) rfl rfl hl.1 rfl (lv_room (Nat.le_of_ble_eq_true rfl)) dX4_putRule_61 ⟨Nat.zero_le _, Nat.zero_le _⟩) hP hD hS hA rfl [8, 9] (wr := (wX2 g aR r_action r_sets r_state r_condition)) rfl (by decide) (by decide) [2, 3, 4, 5, 6, 7, 8, 9, 0, 1] (w2 := (wX4 g aT t_conditions t_cases (t_rules + (1 : Int32)) t_defaultAction t_sizes t_strides t_costs t_weights (va_cpy r_sets t_sets_5 (0 : Int32).toNatClampNeg (x1 * (4 : Int32)).toNatClampNeg (4 : Int32).toNatClampNeg) (upd t_actions_5 x1.toNatClampNeg r_action) w61_0 ++ (wX2 g aR r_action r_sets r_state r_condition))) rfl (by decide) (fun H locs hP hD hS => ?_)
        replace h := Option.some.inj h
        subst h
        replace h := wk_r k1
        have hj0 := (Prod.mk.inj h).1
        have hg0 := (Prod.mk.inj h).2
        have hj1 := (Prod.mk.inj hg0).1
        have hg1 := (Prod.mk.inj hg0).2
        have hj2 := (Prod.mk.inj hg1).1
        have hg2 := (Prod.mk.inj hg1).2
        clear hg0
        clear hg1
        subst hj0
        subst hj1
        subst hj2
        subst hg2
        exact W.vret hx hb hr (fun t ht hW => ⟨⟨(), rfl, trivial, by rw [ht]; exact hP, hD⟩, hS.F ht⟩) hS.2.2 dX4_putRule_64
      · replace h := ite_f c7 h
        refine lv_aload_n hx hb dX4_putRule_10 rfl (lv_at hl 1 rfl) ?_
        refine lv_iload_n hx hb dX4_putRule_11 rfl (lv_at hl 0 rfl) ?_
        refine lv_iconst (v := 1) hx hb dX4_putRule_12 (by decide) ?_
        refine lv_isub hx hb dX4_putRule_13 ?_
        refine lv_iload_n hx hb dX4_putRule_14 rfl (lv_at hl 0 rfl) ?_
        obtain ⟨w15_0, w15_1, e_15, h⟩ := bd2_s h
        refine cm_v (ws := (wX4 g aT t_conditions t_cases t_rules t_defaultAction t_sizes t_strides t_costs t_weights t_sets_5 t_actions_5 t_rulesWith ++ (wX2 g aR r_action r_sets r_state r_condition))) (isC := [0, 1, 2, 3, 4, 5, 6, 7]) (va_runV (As := [.int (v3_5 - (1 : Int32)), .int v3_5]) (rest := []) ⟨hx, hb, hml, hown, hts⟩ (c_X4_moveRule l H.size D g aT t_conditions t_cases t_rules t_defaultAction t_sizes t_strides t_costs t_weights t_sets_5 t_actions_5 t_rulesWith (v3_5 - (1 : Int32)) v3_5 w15_0 w15_1 e_15) (cwV 2 hts gX4_putRule_X4_moveRule rfl rfl rfl ⟨rfl, pd_X4_moveRule⟩ ⟨Nat.le_of_ble_eq_true rfl, Nat.le_of_ble_eq_true rfl⟩) (pw_v hK (hP.sub (ws' := (wX4 g aT t_conditions t_cases t_rules t_defaultAction t_sizes t_strides t_costs t_weights t_sets_5 t_actions_5 t_rulesWith)) [0, 1, 2, 3, 4, 5, 6, 7] rfl) (hD.sub (ws' := (wX4 g aT t_conditions t_cases t_rules t_defaultAction t_sizes t_strides t_costs t_weights t_sets_5 t_actions_5 t_rulesWith)) [0, 1, 2, 3, 4, 5, 6, 7] (by decide) rfl) (q0 := 0) (ci := 4) rfl rfl rfl) rfl rfl hl.1 rfl (lv_room (Nat.le_of_ble_eq_true rfl)) dX4_putRule_15 ⟨Nat.zero_le _, Nat.zero_le _⟩) hP hD hS hA rfl [8, 9] (wr := (wX2 g aR r_action r_sets r_state r_condition)) rfl (by decide) (by decide) [2, 3, 4, 5, 6, 7, 8, 9, 0, 1] (w2 := (wX4 g aT t_conditions t_cases t_rules t_defaultAction t_sizes t_strides t_costs t_weights w15_0 w15_1 t_rulesWith ++ (wX2 g aR r_action r_sets r_state r_condition))) rfl (by decide) (fun H locs hP hD hS => ?_)
        refine lv_iinc (v := (v3_5 + (-1))) (lv' := [(3, .int (v3_5 + (-1))), (0, .ref (aT 0)), (1, .int x1), (2, .ref (aR 0))]) hx hb dX4_putRule_18 hl (k := 0) rfl rfl (by decide) rfl (fun ls hl => ?_)
        refine lv_goto (tgt := 5) hx hb dX4_putRule_21 (by decide) ?_
        replace h := Option.some.inj h
        subst h
        exact ih1 (v3_5 + (-1)) w15_0 w15_1 H locs hP hD hS (wk_l k1) ls (lv_sub hl [0, 1, 2, 3] rfl)
  exact lp5 5000 t_rules t_sets t_actions H locs hP hD hS h ls (lv_sub hl [0, 1, 2, 3] rfl)
theorem pd_X4_dropRule : yX4_dropRule.cls ≠ "java/lang/invoke/MethodHandle" ∧ yX4_dropRule.cls ≠ "java/lang/invoke/VarHandle" ∧ (parseMethodDescriptor yX4_dropRule.desc).map (fun d => d.parameters.length) = some 1 := by decide +kernel
def f_X4_dropRule_s4 (t_conditions : Int32) (t_rules : Int32) (t_sizes : Nat → Int32) (t_rulesWith : Nat → Int32) (v2_4 : Int32) (t_sets_4 : Nat → Int32) (t_actions_4 : Nat → Int32) : Option ((Int32 × (Nat → Int32) × (Nat → Int32)) ⊕ (Int32 × (Nat → Int32) × (Nat → Int32) × (Nat → Int32))) :=
  (if t_rules ≤ v2_4 then (Option.bind (f_X4_indexRules t_conditions (t_rules - (1 : Int32)) t_sizes t_sets_4 t_rulesWith) fun w37_0 => (some (.inr ((t_rules - (1 : Int32)), t_sets_4, t_actions_4, w37_0)))) else (bd2 (f_X4_moveRule t_sets_4 t_actions_4 v2_4 (v2_4 - (1 : Int32))) fun w17_0 w17_1 => (some (.inl ((v2_4 + 1), w17_0, w17_1)))))
def f_X4_dropRule (t_conditions : Int32) (t_rules : Int32) (t_sizes : Nat → Int32) (t_sets : Nat → Int32) (t_actions : Nat → Int32) (t_rulesWith : Nat → Int32) (x1 : Int32) : Option (Int32 × (Nat → Int32) × (Nat → Int32) × (Nat → Int32)) :=
  (wl (fun q => f_X4_dropRule_s4 t_conditions t_rules t_sizes t_rulesWith q.1 q.2.1 q.2.2) 5000 ((x1 + (1 : Int32)), t_sets, t_actions))
set_option maxHeartbeats 4000000 in
set_option maxRecDepth 100000 in
theorem c_X4_dropRule (l : Launch) (sz : Nat) (D : va_G) (g : Nat → ClassId) (aT : Nat → Nat) (t_conditions : Int32) (t_cases : Int32) (t_rules : Int32) (t_defaultAction : Int32) (t_sizes : Nat → Int32) (t_strides : Nat → Int32) (t_costs : Nat → Int32) (t_weights : Nat → Int32) (t_sets : Nat → Int32) (t_actions : Nat → Int32) (t_rulesWith : Nat → Int32) (x1 : Int32) (t_rules_n : Int32) (t_sets_n : Nat → Int32) (t_actions_n : Nat → Int32) (t_rulesWith_n : Nat → Int32) (hf : f_X4_dropRule t_conditions t_rules t_sizes t_sets t_actions t_rulesWith x1 = some (t_rules_n, t_sets_n, t_actions_n, t_rulesWith_n)) : CM l yX4_dropRule wsX4_dropRule 2 82 sz D g [.ref (aT 0), .int x1] (wX4 g aT t_conditions t_cases t_rules t_defaultAction t_sizes t_strides t_costs t_weights t_sets t_actions t_rulesWith) (QMv D (wX4 g aT t_conditions t_cases t_rules t_defaultAction t_sizes t_strides t_costs t_weights t_sets t_actions t_rulesWith) sz (wX4 g aT t_conditions t_cases t_rules_n t_defaultAction t_sizes t_strides t_costs t_weights t_sets_n t_actions_n t_rulesWith_n)) := by
  refine Met.ofW (cc := cX4_dropRule) (maxL := 3) (ret := none) (by decide) rfl ?_
  intro p e s m args below meth c s₁ B hml hv
  obtain ⟨rfl, hsz, hP, hK, hD0⟩ := hv
  have hx := B.exec
  have hb := B.bytes
  have hr := B.returns
  have hts := atoms_spec (ws := wsX4_dropRule) B.pre
  have hown : s.vm.findClass RX4 = some m.cls := findClass_of_methodNamed B.named
  have hlocks := B.notSynchronized
  have hh0 := (show ∀ w ∈ wsX40, w ∈ wsX4_dropRule from by decide +kernel)
  have hh1 := hts (.fieldLink RX4 40 "DecisionTableCompiler$Table" "rules" "I") (by decide +kernel)
  subst hsz
  have hD := hD0.self (sz := s.heap.size)
  have hA : ∀ q : Nat, s.heap.size ≤ q → va_A (wX4 g aT t_conditions t_cases t_rules t_defaultAction t_sizes t_strides t_costs t_weights t_sets t_actions t_rulesWith) s.heap.size q := fun q h => Or.inr h
  have hS : va_S (va_A (wX4 g aT t_conditions t_cases t_rules t_defaultAction t_sizes t_strides t_costs t_weights t_sets t_actions t_rulesWith) s.heap.size) s.heap s.heap [] := va_S.rf
  have hl := lv_entry ([.ref (aT 0), .int x1]) (n := 3) (Nat.le_of_ble_eq_true rfl)
  rw [lg_entry_eq]
  generalize (lg_sl ([.ref (aT 0), .int x1]) ++ List.replicate (3 - (lg_sl ([.ref (aT 0), .int x1])).length) Slot.unset).toArray = ls at hl ⊢
  replace hl : lv_has ls 3 [(0, .ref (aT 0)), (1, .int x1)] := hl
  have h := hf
  unfold f_X4_dropRule at h
  obtain ⟨H, hH⟩ : ∃ H, H = s.heap := ⟨_, rfl⟩
  obtain ⟨locs, hlc⟩ : ∃ q : List Loc, q = [] := ⟨_, rfl⟩
  have hS : va_S (va_A (wX4 g aT t_conditions t_cases t_rules t_defaultAction t_sizes t_strides t_costs t_weights t_sets t_actions t_rulesWith) s.heap.size) s.heap H locs := by rw [hH, hlc]; exact hS
  replace hP : va_P D vwCl (wX4 g aT t_conditions t_cases t_rules t_defaultAction t_sizes t_strides t_costs t_weights t_sets t_actions t_rulesWith) H := by rw [hH]; exact hP
  suffices hW : W p l e (headSpec wsX4_dropRule ({ frames := 2, cells := 0, slots := 0, locals := 82 })).room s m ([.ref (aT 0), .int x1] : List Value).toArray below meth c H locs 0 0 (MQ below (QMv D (wX4 g aT t_conditions t_cases t_rules t_defaultAction t_sizes t_strides t_costs t_weights t_sets t_actions t_rulesWith) s.heap.size (wX4 g aT t_conditions t_cases t_rules_n t_defaultAction t_sizes t_strides t_costs t_weights t_sets_n t_actions_n t_rulesWith_n)) ([.ref (aT 0), .int x1] : List Value).toArray s 0 0 (va_A (wX4 g aT t_conditions t_cases t_rules t_defaultAction t_sizes t_strides t_costs t_weights t_sets t_actions t_rulesWith) s.heap.size)) (F0 m 0 ls []) by rw [hH, hlc] at hW; exact hW
  clear hH hlc
  refine lv_iload_n hx hb dX4_dropRule_0 rfl (lv_at hl 1 rfl) ?_
  refine lv_iconst (v := 1) hx hb dX4_dropRule_1 (by decide) ?_
  refine lv_iadd hx hb dX4_dropRule_2 ?_
  refine lv_istore_n (lv' := [(2, .int (x1 + (1 : Int32))), (0, .ref (aT 0)), (1, .int x1)]) hx hb dX4_dropRule_3 rfl hl (by decide) rfl (fun ls hl => ?_)
  have lp4 : ∀ (n : Nat) (v2_4 : Int32) (t_sets_4 : Nat → Int32) (t_actions_4 : Nat → Int32) (H : Heap) (locs : List Loc), va_P D vwCl (wX4 g aT t_conditions t_cases t_rules t_defaultAction t_sizes t_strides t_costs t_weights t_sets_4 t_actions_4 t_rulesWith) H → va_D (va_A (wX4 g aT t_conditions t_cases t_rules t_defaultAction t_sizes t_strides t_costs t_weights t_sets t_actions t_rulesWith) s.heap.size) (wX4 g aT t_conditions t_cases t_rules t_defaultAction t_sizes t_strides t_costs t_weights t_sets_4 t_actions_4 t_rulesWith) → va_S (va_A (wX4 g aT t_conditions t_cases t_rules t_defaultAction t_sizes t_strides t_costs t_weights t_sets t_actions t_rulesWith) s.heap.size) s.heap H locs → wl (fun q => f_X4_dropRule_s4 t_conditions t_rules t_sizes t_rulesWith q.1 q.2.1 q.2.2) n (v2_4, t_sets_4, t_actions_4) = some (t_rules_n, t_sets_n, t_actions_n, t_rulesWith_n) → ∀ ls : Array Slot, lv_has ls 3 [(2, .int v2_4), (0, .ref (aT 0))] → W p l e (headSpec wsX4_dropRule ({ frames := 2, cells := 0, slots := 0, locals := 82 })).room s m ([.ref (aT 0), .int x1] : List Value).toArray below meth c H locs 0 0 (MQ below (QMv D (wX4 g aT t_conditions t_cases t_rules t_defaultAction t_sizes t_strides t_costs t_weights t_sets t_actions t_rulesWith) s.heap.size (wX4 g aT t_conditions t_cases t_rules_n t_defaultAction t_sizes t_strides t_costs t_weights t_sets_n t_actions_n t_rulesWith_n)) ([.ref (aT 0), .int x1] : List Value).toArray s 0 0 (va_A (wX4 g aT t_conditions t_cases t_rules t_defaultAction t_sizes t_strides t_costs t_weights t_sets t_actions t_rulesWith) s.heap.size)) (F0 m 4 ls []) := by
    intro n
    induction n with
    | zero =>
      intro v2_4 t_sets_4 t_actions_4 H locs hP hD hS h
      exact wl_0 h
    | succ n ih1 =>
      intro v2_4 t_sets_4 t_actions_4 H locs hP hD hS h ls hl
      obtain ⟨o1, h, k1⟩ := wl_s h
      replace h : f_X4_dropRule_s4 t_conditions t_rules t_sizes t_rulesWith v2_4 t_sets_4 t_actions_4 = some o1 := h
      unfold f_X4_dropRule_s4 at h
      refine lv_iload_n hx hb dX4_dropRule_4 rfl (lv_at hl 0 rfl) ?_
      refine lv_aload_n hx hb dX4_dropRule_5 rfl (lv_at hl 1 rfl) ?_
      refine va_get (D := D) (ci := 4) (v := .int t_rules) (C := RX4) (T := TX4) (N := 11) hx hb hts hh0 hown hK.1 hP 0 rfl rfl 2 (by decide) hh1 (fun _ h9 => h9) rfl dX4_dropRule_6 ?_
      refine lv_icmp_ge (tgt := 26) hx hb dX4_dropRule_9 (by decide) (fun c9 => ?_) (fun c9 => ?_)
      · replace h := ite_t c9 h
        refine lv_aload_n hx hb dX4_dropRule_26 rfl (lv_at hl 1 rfl) ?_
        refine lv_dup hx hb dX4_dropRule_27 rfl ?_
        refine va_get (D := D) (ci := 4) (v := .int t_rules) (C := RX4) (T := TX4) (N := 11) hx hb hts hh0 hown hK.1 hP 0 rfl rfl 2 (by decide) hh1 (fun _ h9 => h9) rfl dX4_dropRule_28 ?_
        refine lv_iconst (v := 1) hx hb dX4_dropRule_31 (by decide) ?_
        refine lv_isub hx hb dX4_dropRule_32 ?_
        refine va_put (D := D) (ci := 4) (v := .int (t_rules - (1 : Int32))) (ty := .int) (C := RX4) (T := TX4) (N := 11) hx hb hts hh0 tyX4 tyX4_ok nmX4 hown hK.1 hP hD hS 0 rfl rfl 2 (by decide) hh1 (fun _ h9 => h9) rfl (by decide +kernel) rfl rfl (Nat.le_of_ble_eq_true rfl) dX4_dropRule_33 (fun H locs hP hD hS => ?_)
        replace hP : va_P D vwCl (wX4 g aT t_conditions t_cases (t_rules - (1 : Int32)) t_defaultAction t_sizes t_strides t_costs t_weights t_sets_4 t_actions_4 t_rulesWith) H := hP
        replace hD : va_D (va_A (wX4 g aT t_conditions t_cases t_rules t_defaultAction t_sizes t_strides t_costs t_weights t_sets t_actions t_rulesWith) s.heap.size) (wX4 g aT t_conditions t_cases (t_rules - (1 : Int32)) t_defaultAction t_sizes t_strides t_costs t_weights t_sets_4 t_actions_4 t_rulesWith) := hD
        refine lv_aload_n hx hb dX4_dropRule_36 rfl (lv_at hl 1 rfl) ?_
        obtain ⟨w37_0, e_37, h⟩ := bd_s h
        refine cm_v (ws := (wX4 g aT t_conditions t_cases (t_rules - (1 : Int32)) t_defaultAction t_sizes t_strides t_costs t_weights t_sets_4 t_actions_4 t_rulesWith)) (isC := [0, 1, 2, 3, 4, 5, 6, 7]) (va_runV (As := []) (rest := []) ⟨hx, hb, hml, hown, hts⟩ (c_X4_indexRules l H.size D g aT t_conditions t_cases (t_rules - (1 : Int32)) t_defaultAction t_sizes t_strides t_costs t_weights t_sets_4 t_actions_4 t_rulesWith w37_0 e_37) (cwV 0 hts gX4_dropRule_X4_indexRules rfl rfl rfl ⟨rfl, pd_X4_indexRules⟩ ⟨Nat.le_of_ble_eq_true rfl, Nat.le_of_ble_eq_true rfl⟩) (pw_v hK hP hD (q0 := 0) (ci := 4) rfl rfl rfl) rfl rfl hl.1 rfl (lv_room (Nat.le_of_ble_eq_true rfl)) dX4_dropRule_37 ⟨Nat.zero_le _, Nat.zero_le _⟩) hP hD hS hA rfl [] (wr := []) rfl (by decide) (by decide) [0, 1, 2, 3, 4, 5, 6, 7] (w2 := (wX4 g aT t_conditions t_cases (t_rules - (1 : Int32)) t_defaultAction t_sizes t_strides t_costs t_weights t_sets_4 t_actions_4 w37_0)) rfl (by decide) (fun H locs hP hD hS => ?_)
        replace h := Option.some.inj h
        subst h
        replace h := wk_r k1
        have hj0 := (Prod.mk.inj h).1
        have hg0 := (Prod.mk.inj h).2
        have hj1 := (Prod.mk.inj hg0).1
        have hg1 := (Prod.mk.inj hg0).2
        have hj2 := (Prod.mk.inj hg1).1
        have hg2 := (Prod.mk.inj hg1).2
        clear hg0
        clear hg1
        subst hj0
        subst hj1
        subst hj2
        subst hg2
        exact W.vret hx hb hr (fun t ht hW => ⟨⟨(), rfl, trivial, by rw [ht]; exact hP, hD⟩, hS.F ht⟩) hS.2.2 dX4_dropRule_40
      · replace h := ite_f c9 h
        refine lv_aload_n hx hb dX4_dropRule_12 rfl (lv_at hl 1 rfl) ?_
        refine lv_iload_n hx hb dX4_dropRule_13 rfl (lv_at hl 0 rfl) ?_
        refine lv_iload_n hx hb dX4_dropRule_14 rfl (lv_at hl 0 rfl) ?_
        refine lv_iconst (v := 1) hx hb dX4_dropRule_15 (by decide) ?_
        refine lv_isub hx hb dX4_dropRule_16 ?_
        obtain ⟨w17_0, w17_1, e_17, h⟩ := bd2_s h
        refine cm_v (ws := (wX4 g aT t_conditions t_cases t_rules t_defaultAction t_sizes t_strides t_costs t_weights t_sets_4 t_actions_4 t_rulesWith)) (isC := [0, 1, 2, 3, 4, 5, 6, 7]) (va_runV (As := [.int v2_4, .int (v2_4 - (1 : Int32))]) (rest := []) ⟨hx, hb, hml, hown, hts⟩ (c_X4_moveRule l H.size D g aT t_conditions t_cases t_rules t_defaultAction t_sizes t_strides t_costs t_weights t_sets_4 t_actions_4 t_rulesWith v2_4 (v2_4 - (1 : Int32)) w17_0 w17_1 e_17) (cwV 2 hts gX4_dropRule_X4_moveRule rfl rfl rfl ⟨rfl, pd_X4_moveRule⟩ ⟨Nat.le_of_ble_eq_true rfl, Nat.le_of_ble_eq_true rfl⟩) (pw_v hK hP hD (q0 := 0) (ci := 4) rfl rfl rfl) rfl rfl hl.1 rfl (lv_room (Nat.le_of_ble_eq_true rfl)) dX4_dropRule_17 ⟨Nat.zero_le _, Nat.zero_le _⟩) hP hD hS hA rfl [] (wr := []) rfl (by decide) (by decide) [0, 1, 2, 3, 4, 5, 6, 7] (w2 := (wX4 g aT t_conditions t_cases t_rules t_defaultAction t_sizes t_strides t_costs t_weights w17_0 w17_1 t_rulesWith)) rfl (by decide) (fun H locs hP hD hS => ?_)
        refine lv_iinc (v := (v2_4 + 1)) (lv' := [(2, .int (v2_4 + 1)), (0, .ref (aT 0))]) hx hb dX4_dropRule_20 hl (k := 0) rfl rfl (by decide) rfl (fun ls hl => ?_)
        refine lv_goto (tgt := 4) hx hb dX4_dropRule_23 (by decide) ?_
        replace h := Option.some.inj h
        subst h
        exact ih1 (v2_4 + 1) w17_0 w17_1 H locs hP hD hS (wk_l k1) ls (lv_sub hl [0, 1] rfl)
  exact lp4 5000 (x1 + (1 : Int32)) t_sets t_actions H locs hP hD hS h ls (lv_sub hl [0, 1] rfl)
theorem pd_X4_differences : yX4_differences.cls ≠ "java/lang/invoke/MethodHandle" ∧ yX4_differences.cls ≠ "java/lang/invoke/VarHandle" ∧ (parseMethodDescriptor yX4_differences.desc).map (fun d => d.parameters.length) = some 2 := by decide +kernel
def f_X4_differences_s5 (t_conditions : Int32) (t_sets : Nat → Int32) (x1 : Int32) (x2 : Int32) (v3_5 : Int32) (v4_5 : Int32) : Option ((Int32 × Int32) ⊕ (Int32)) :=
  (if t_conditions ≤ v4_5 then (some (.inr v3_5)) else (Option.bind (f_X4_setOf t_sets x1 v4_5) fun z18 => (Option.bind (f_X4_setOf t_sets x2 v4_5) fun z25 => (if z18 = z25 then (some (.inl (v3_5, (v4_5 + 1)))) else (some (.inl ((v3_5 + 1), (v4_5 + 1))))))))
def f_X4_differences (t_conditions : Int32) (t_sets : Nat → Int32) (x1 : Int32) (x2 : Int32) : Option (Int32) :=
  (wl (fun q => f_X4_differences_s5 t_conditions t_sets x1 x2 q.1 q.2) 5000 ((0 : Int32), (0 : Int32)))
set_option maxHeartbeats 4000000 in
set_option maxRecDepth 100000 in
theorem c_X4_differences (l : Launch) (D : va_G) (g : Nat → ClassId) (aT : Nat → Nat) (t_conditions : Int32) (t_cases : Int32) (t_rules : Int32) (t_defaultAction : Int32) (t_sizes : Nat → Int32) (t_strides : Nat → Int32) (t_costs : Nat → Int32) (t_weights : Nat → Int32) (t_sets : Nat → Int32) (t_actions : Nat → Int32) (t_rulesWith : Nat → Int32) (x1 : Int32) (x2 : Int32) (r : Int32) (hf : f_X4_differences t_conditions t_sets x1 x2 = some r) : CR l yX4_differences wsX4_differences 1 22 D g [.ref (aT 0), .int x1, .int x2] (wX4 g aT t_conditions t_cases t_rules t_defaultAction t_sizes t_strides t_costs t_weights t_sets t_actions t_rulesWith) (QRi r) := by
  refine Met.ofW (cc := cX4_differences) (maxL := 5) (ret := (some .int)) (by decide) rfl ?_
  intro p e s m args below meth c s₁ B hml hv
  obtain ⟨rfl, hP, hK⟩ := hv
  have hx := B.exec
  have hb := B.bytes
  have hr := B.returns
  have hts := atoms_spec (ws := wsX4_differences) B.pre
  have hown : s.vm.findClass RX4 = some m.cls := findClass_of_methodNamed B.named
  have hlocks := B.notSynchronized
  have hh0 := (show ∀ w ∈ wsX40, w ∈ wsX4_differences from by decide +kernel)
  have hh1 := hts (.fieldLink RX4 33 "DecisionTableCompiler$Table" "conditions" "I") (by decide +kernel)
  have hl := lv_entry ([.ref (aT 0), .int x1, .int x2]) (n := 5) (Nat.le_of_ble_eq_true rfl)
  rw [lg_entry_eq]
  generalize (lg_sl ([.ref (aT 0), .int x1, .int x2]) ++ List.replicate (5 - (lg_sl ([.ref (aT 0), .int x1, .int x2])).length) Slot.unset).toArray = ls at hl ⊢
  replace hl : lv_has ls 5 [(0, .ref (aT 0)), (1, .int x1), (2, .int x2)] := hl
  have h := hf
  unfold f_X4_differences at h
  refine lv_iconst (v := 0) hx hb dX4_differences_0 (by decide) ?_
  refine lv_istore_n (lv' := [(3, .int (0 : Int32)), (0, .ref (aT 0)), (1, .int x1), (2, .int x2)]) hx hb dX4_differences_1 rfl hl (by decide) rfl (fun ls hl => ?_)
  refine lv_iconst (v := 0) hx hb dX4_differences_2 (by decide) ?_
  refine lv_istore (lv' := [(4, .int (0 : Int32)), (3, .int (0 : Int32)), (0, .ref (aT 0)), (1, .int x1), (2, .int x2)]) hx hb dX4_differences_3 hl (by decide) rfl (fun ls hl => ?_)
  have lp5 : ∀ (n : Nat) (v3_5 : Int32) (v4_5 : Int32), wl (fun q => f_X4_differences_s5 t_conditions t_sets x1 x2 q.1 q.2) n (v3_5, v4_5) = some r → ∀ ls : Array Slot, lv_has ls 5 [(4, .int v4_5), (3, .int v3_5), (0, .ref (aT 0)), (1, .int x1), (2, .int x2)] → W p l e (headSpec wsX4_differences ({ frames := 1, cells := 0, slots := 0, locals := 22 })).room s m ([.ref (aT 0), .int x1, .int x2] : List Value).toArray below meth c s.heap [] 0 0 (MQ below (QRi r) ([.ref (aT 0), .int x1, .int x2] : List Value).toArray s 0 0 (fun _ => False)) (F0 m 5 ls []) := by
    intro n
    induction n with
    | zero =>
      intro v3_5 v4_5 h
      exact wl_0 h
    | succ n ih1 =>
      intro v3_5 v4_5 h ls hl
      obtain ⟨o1, h, k1⟩ := wl_s h
      replace h : f_X4_differences_s5 t_conditions t_sets x1 x2 v3_5 v4_5 = some o1 := h
      unfold f_X4_differences_s5 at h
      refine lv_iload hx hb dX4_differences_5 (lv_at hl 0 rfl) ?_
      refine lv_aload_n hx hb dX4_differences_7 rfl (lv_at hl 2 rfl) ?_
      refine va_get (D := D) (ci := 4) (v := .int t_conditions) (C := RX4) (T := TX4) (N := 11) hx hb hts hh0 hown hK.1 hP 0 rfl rfl 0 (by decide) hh1 (fun _ h9 => h9) rfl dX4_differences_8 ?_
      refine lv_icmp_ge (tgt := 40) hx hb dX4_differences_11 (by decide) (fun c11 => ?_) (fun c11 => ?_)
      · replace h := ite_t c11 h
        refine lv_iload_n hx hb dX4_differences_40 rfl (lv_at hl 1 rfl) ?_
        replace h := Option.some.inj h
        subst h
        replace h := wk_r k1
        subst h
        exact W.iret hx hb hr (fun t ht hW => ⟨_, rfl, rfl, ht⟩) (fun q hq => by cases hq) dX4_differences_41
      · replace h := ite_f c11 h
        refine lv_aload_n hx hb dX4_differences_14 rfl (lv_at hl 2 rfl) ?_
        refine lv_iload_n hx hb dX4_differences_15 rfl (lv_at hl 3 rfl) ?_
        refine lv_iload hx hb dX4_differences_16 (lv_at hl 0 rfl) ?_
        obtain ⟨z18, e_18, h⟩ := bd_s h
        refine cr_i (va_runV (As := [.int x1, .int v4_5]) (rest := []) ⟨hx, hb, hml, hown, hts⟩ (c_X4_setOf l D g aT t_conditions t_cases t_rules t_defaultAction t_sizes t_strides t_costs t_weights t_sets t_actions t_rulesWith x1 v4_5 z18 e_18) (cwV 2 hts gX4_differences_X4_setOf rfl rfl rfl ⟨rfl, pd_X4_setOf⟩ ⟨Nat.le_of_ble_eq_true rfl, Nat.le_of_ble_eq_true rfl⟩) (pr_v hK hP (q0 := 0) (ci := 4) rfl rfl rfl) rfl rfl hl.1 rfl (lv_room (Nat.le_of_ble_eq_true rfl)) dX4_differences_18 ⟨Nat.zero_le _, Nat.zero_le _⟩) ?_
        refine lv_aload_n hx hb dX4_differences_21 rfl (lv_at hl 2 rfl) ?_
        refine lv_iload_n hx hb dX4_differences_22 rfl (lv_at hl 4 rfl) ?_
        refine lv_iload hx hb dX4_differences_23 (lv_at hl 0 rfl) ?_
        obtain ⟨z25, e_25, h⟩ := bd_s h
        refine cr_i (va_runV (As := [.int x2, .int v4_5]) (rest := [.int z18]) ⟨hx, hb, hml, hown, hts⟩ (c_X4_setOf l D g aT t_conditions t_cases t_rules t_defaultAction t_sizes t_strides t_costs t_weights t_sets t_actions t_rulesWith x2 v4_5 z25 e_25) (cwV 2 hts gX4_differences_X4_setOf rfl rfl rfl ⟨rfl, pd_X4_setOf⟩ ⟨Nat.le_of_ble_eq_true rfl, Nat.le_of_ble_eq_true rfl⟩) (pr_v hK hP (q0 := 0) (ci := 4) rfl rfl rfl) rfl rfl hl.1 rfl (lv_room (Nat.le_of_ble_eq_true rfl)) dX4_differences_25 ⟨Nat.zero_le _, Nat.zero_le _⟩) ?_
        refine lv_icmp_eq (tgt := 34) hx hb dX4_differences_28 (by decide) (fun c28 => ?_) (fun c28 => ?_)
        · replace h := ite_t c28 h
          refine lv_iinc (v := (v4_5 + 1)) (lv' := [(4, .int (v4_5 + 1)), (3, .int v3_5), (0, .ref (aT 0)), (1, .int x1), (2, .int x2)]) hx hb dX4_differences_34 hl (k := 0) rfl rfl (by decide) rfl (fun ls hl => ?_)
          refine lv_goto (tgt := 5) hx hb dX4_differences_37 (by decide) ?_
          replace h := Option.some.inj h
          subst h
          exact ih1 v3_5 (v4_5 + 1) (wk_l k1) ls (lv_sub hl [0, 1, 2, 3, 4] rfl)
        · replace h := ite_f c28 h
          refine lv_iinc (v := (v3_5 + 1)) (lv' := [(3, .int (v3_5 + 1)), (4, .int v4_5), (0, .ref (aT 0)), (1, .int x1), (2, .int x2)]) hx hb dX4_differences_31 hl (k := 1) rfl rfl (by decide) rfl (fun ls hl => ?_)
          refine lv_iinc (v := (v4_5 + 1)) (lv' := [(4, .int (v4_5 + 1)), (3, .int (v3_5 + 1)), (0, .ref (aT 0)), (1, .int x1), (2, .int x2)]) hx hb dX4_differences_34 hl (k := 1) rfl rfl (by decide) rfl (fun ls hl => ?_)
          refine lv_goto (tgt := 5) hx hb dX4_differences_37 (by decide) ?_
          replace h := Option.some.inj h
          subst h
          exact ih1 (v3_5 + 1) (v4_5 + 1) (wk_l k1) ls (lv_sub hl [0, 1, 2, 3, 4] rfl)
  exact lp5 5000 (0 : Int32) (0 : Int32) h ls (lv_sub hl [0, 1, 2, 3, 4] rfl)
theorem pd_X4_firstMergeable : yX4_firstMergeable.cls ≠ "java/lang/invoke/MethodHandle" ∧ yX4_firstMergeable.cls ≠ "java/lang/invoke/VarHandle" ∧ (parseMethodDescriptor yX4_firstMergeable.desc).map (fun d => d.parameters.length) = some 0 := by decide +kernel
def f_X4_firstMergeable_s2 (t_conditions : Int32) (t_rules : Int32) (t_sets : Nat → Int32) (t_actions : Nat → Int32) (v1_2 : Int32) : Option ((Int32) ⊕ (Int32)) :=
  (if t_rules ≤ (v1_2 + (1 : Int32)) then (some (.inr (-1 : Int32))) else (rd 12 t_actions v1_2 fun z17 => (rd 12 t_actions (v1_2 + (1 : Int32)) fun z25 => (if z17 = z25 then (Option.bind (f_X4_differences t_conditions t_sets v1_2 (v1_2 + (1 : Int32))) fun z34 => (if (1 : Int32) < z34 then (some (.inl (v1_2 + 1))) else (some (.inr v1_2)))) else (some (.inl (v1_2 + 1)))))))
def f_X4_firstMergeable (t_conditions : Int32) (t_rules : Int32) (t_sets : Nat → Int32) (t_actions : Nat → Int32) : Option (Int32) :=
  (wl (fun q => f_X4_firstMergeable_s2 t_conditions t_rules t_sets t_actions q) 5000 (0 : Int32))
set_option maxHeartbeats 4000000 in
set_option maxRecDepth 100000 in
theorem c_X4_firstMergeable (l : Launch) (D : va_G) (g : Nat → ClassId) (aT : Nat → Nat) (t_conditions : Int32) (t_cases : Int32) (t_rules : Int32) (t_defaultAction : Int32) (t_sizes : Nat → Int32) (t_strides : Nat → Int32) (t_costs : Nat → Int32) (t_weights : Nat → Int32) (t_sets : Nat → Int32) (t_actions : Nat → Int32) (t_rulesWith : Nat → Int32)  (r : Int32) (hf : f_X4_firstMergeable t_conditions t_rules t_sets t_actions = some r) : CR l yX4_firstMergeable wsX4_firstMergeable 2 46 D g [.ref (aT 0)] (wX4 g aT t_conditions t_cases t_rules t_defaultAction t_sizes t_strides t_costs t_weights t_sets t_actions t_rulesWith) (QRi r) := by
  refine Met.ofW (cc := cX4_firstMergeable) (maxL := 2) (ret := (some .int)) (by decide) rfl ?_
  intro p e s m args below meth c s₁ B hml hv
  obtain ⟨rfl, hP, hK⟩ := hv
  have hx := B.exec
  have hb := B.bytes
  have hr := B.returns
  have hts := atoms_spec (ws := wsX4_firstMergeable) B.pre
  have hown : s.vm.findClass RX4 = some m.cls := findClass_of_methodNamed B.named
  have hlocks := B.notSynchronized
  have hh0 := (show ∀ w ∈ wsX40, w ∈ wsX4_firstMergeable from by decide +kernel)
  have hh1 := hts (.fieldLink RX4 40 "DecisionTableCompiler$Table" "rules" "I") (by decide +kernel)
  have hh2 := hts (.fieldLink RX4 27 "DecisionTableCompiler$Table" "actions" "[I") (by decide +kernel)
  have hl := lv_entry ([.ref (aT 0)]) (n := 2) (Nat.le_of_ble_eq_true rfl)
  rw [lg_entry_eq]
  generalize (lg_sl ([.ref (aT 0)]) ++ List.replicate (2 - (lg_sl ([.ref (aT 0)])).length) Slot.unset).toArray = ls at hl ⊢
  replace hl : lv_has ls 2 [(0, .ref (aT 0))] := hl
  have h := hf
  unfold f_X4_firstMergeable at h
  refine lv_iconst (v := 0) hx hb dX4_firstMergeable_0 (by decide) ?_
  refine lv_istore_n (lv' := [(1, .int (0 : Int32)), (0, .ref (aT 0))]) hx hb dX4_firstMergeable_1 rfl hl (by decide) rfl (fun ls hl => ?_)
  have lp2 : ∀ (n : Nat) (v1_2 : Int32), wl (fun q => f_X4_firstMergeable_s2 t_conditions t_rules t_sets t_actions q) n v1_2 = some r → ∀ ls : Array Slot, lv_has ls 2 [(1, .int v1_2), (0, .ref (aT 0))] → W p l e (headSpec wsX4_firstMergeable ({ frames := 2, cells := 0, slots := 0, locals := 46 })).room s m ([.ref (aT 0)] : List Value).toArray below meth c s.heap [] 0 0 (MQ below (QRi r) ([.ref (aT 0)] : List Value).toArray s 0 0 (fun _ => False)) (F0 m 2 ls []) := by
    intro n
    induction n with
    | zero =>
      intro v1_2 h
      exact wl_0 h
    | succ n ih1 =>
      intro v1_2 h ls hl
      obtain ⟨o1, h, k1⟩ := wl_s h
      replace h : f_X4_firstMergeable_s2 t_conditions t_rules t_sets t_actions v1_2 = some o1 := h
      unfold f_X4_firstMergeable_s2 at h
      refine lv_iload_n hx hb dX4_firstMergeable_2 rfl (lv_at hl 0 rfl) ?_
      refine lv_iconst (v := 1) hx hb dX4_firstMergeable_3 (by decide) ?_
      refine lv_iadd hx hb dX4_firstMergeable_4 ?_
      refine lv_aload_n hx hb dX4_firstMergeable_5 rfl (lv_at hl 1 rfl) ?_
      refine va_get (D := D) (ci := 4) (v := .int t_rules) (C := RX4) (T := TX4) (N := 11) hx hb hts hh0 hown hK.1 hP 0 rfl rfl 2 (by decide) hh1 (fun _ h9 => h9) rfl dX4_firstMergeable_6 ?_
      refine lv_icmp_ge (tgt := 49) hx hb dX4_firstMergeable_9 (by decide) (fun c9 => ?_) (fun c9 => ?_)
      · replace h := ite_t c9 h
        refine lv_iconst (v := -1) hx hb dX4_firstMergeable_49 (by decide) ?_
        replace h := Option.some.inj h
        subst h
        replace h := wk_r k1
        subst h
        exact W.iret hx hb hr (fun t ht hW => ⟨_, rfl, rfl, ht⟩) (fun q hq => by cases hq) dX4_firstMergeable_50
      · replace h := ite_f c9 h
        refine lv_aload_n hx hb dX4_firstMergeable_12 rfl (lv_at hl 1 rfl) ?_
        refine va_get (D := D) (ci := 4) (v := .ref (aT 6)) (C := RX4) (T := TX4) (N := 11) hx hb hts hh0 hown hK.1 hP 0 rfl rfl 9 (by decide) hh2 (fun _ h9 => h9) rfl dX4_firstMergeable_13 ?_
        refine lv_iload_n hx hb dX4_firstMergeable_16 rfl (lv_at hl 0 rfl) ?_
        have iz17 := rd_in h
        refine va_iald hx hb hK.1 hP 6 0 rfl rfl (rd_in h) dX4_firstMergeable_17 (lv_topi (fun z17 ez17 => ?_))
        replace h := rd_k h ez17
        refine lv_aload_n hx hb dX4_firstMergeable_18 rfl (lv_at hl 1 rfl) ?_
        refine va_get (D := D) (ci := 4) (v := .ref (aT 6)) (C := RX4) (T := TX4) (N := 11) hx hb hts hh0 hown hK.1 hP 0 rfl rfl 9 (by decide) hh2 (fun _ h9 => h9) rfl dX4_firstMergeable_19 ?_
        refine lv_iload_n hx hb dX4_firstMergeable_22 rfl (lv_at hl 0 rfl) ?_
        refine lv_iconst (v := 1) hx hb dX4_firstMergeable_23 (by decide) ?_
        refine lv_iadd hx hb dX4_firstMergeable_24 ?_
        have iz25 := rd_in h
        refine va_iald hx hb hK.1 hP 6 0 rfl rfl (rd_in h) dX4_firstMergeable_25 (lv_topi (fun z25 ez25 => ?_))
        replace h := rd_k h ez25
        refine lv_icmp_ne (tgt := 43) hx hb dX4_firstMergeable_26 (by decide) (fun c26 => ?_) (fun c26 => ?_)
        · replace h := ite_f c26 h
          refine lv_iinc (v := (v1_2 + 1)) (lv' := [(1, .int (v1_2 + 1)), (0, .ref (aT 0))]) hx hb dX4_firstMergeable_43 hl (k := 0) rfl rfl (by decide) rfl (fun ls hl => ?_)
          refine lv_goto (tgt := 2) hx hb dX4_firstMergeable_46 (by decide) ?_
          replace h := Option.some.inj h
          subst h
          exact ih1 (v1_2 + 1) (wk_l k1) ls (lv_sub hl [0, 1] rfl)
        · replace h := ite_t c26 h
          refine lv_aload_n hx hb dX4_firstMergeable_29 rfl (lv_at hl 1 rfl) ?_
          refine lv_iload_n hx hb dX4_firstMergeable_30 rfl (lv_at hl 0 rfl) ?_
          refine lv_iload_n hx hb dX4_firstMergeable_31 rfl (lv_at hl 0 rfl) ?_
          refine lv_iconst (v := 1) hx hb dX4_firstMergeable_32 (by decide) ?_
          refine lv_iadd hx hb dX4_firstMergeable_33 ?_
          obtain ⟨z34, e_34, h⟩ := bd_s h
          refine cr_i (va_runV (As := [.int v1_2, .int (v1_2 + (1 : Int32))]) (rest := []) ⟨hx, hb, hml, hown, hts⟩ (c_X4_differences l D g aT t_conditions t_cases t_rules t_defaultAction t_sizes t_strides t_costs t_weights t_sets t_actions t_rulesWith v1_2 (v1_2 + (1 : Int32)) z34 e_34) (cwV 2 hts gX4_firstMergeable_X4_differences rfl rfl rfl ⟨rfl, pd_X4_differences⟩ ⟨Nat.le_of_ble_eq_true rfl, Nat.le_of_ble_eq_true rfl⟩) (pr_v hK hP (q0 := 0) (ci := 4) rfl rfl rfl) rfl rfl hl.1 rfl (lv_room (Nat.le_of_ble_eq_true rfl)) dX4_firstMergeable_34 ⟨Nat.zero_le _, Nat.zero_le _⟩) ?_
          refine lv_iconst (v := 1) hx hb dX4_firstMergeable_37 (by decide) ?_
          refine lv_icmp_gt (tgt := 43) hx hb dX4_firstMergeable_38 (by decide) (fun c38 => ?_) (fun c38 => ?_)
          · replace h := ite_t c38 h
            refine lv_iinc (v := (v1_2 + 1)) (lv' := [(1, .int (v1_2 + 1)), (0, .ref (aT 0))]) hx hb dX4_firstMergeable_43 hl (k := 0) rfl rfl (by decide) rfl (fun ls hl => ?_)
            refine lv_goto (tgt := 2) hx hb dX4_firstMergeable_46 (by decide) ?_
            replace h := Option.some.inj h
            subst h
            exact ih1 (v1_2 + 1) (wk_l k1) ls (lv_sub hl [0, 1] rfl)
          · replace h := ite_f c38 h
            refine lv_iload_n hx hb dX4_firstMergeable_41 rfl (lv_at hl 0 rfl) ?_
            replace h := Option.some.inj h
            subst h
            replace h := wk_r k1
            subst h
            exact W.iret hx hb hr (fun t ht hW => ⟨_, rfl, rfl, ht⟩) (fun q hq => by cases hq) dX4_firstMergeable_42
  exact lp2 5000 (0 : Int32) h ls (lv_sub hl [0, 1] rfl)
theorem pd_X4_mergeWithNext : yX4_mergeWithNext.cls ≠ "java/lang/invoke/MethodHandle" ∧ yX4_mergeWithNext.cls ≠ "java/lang/invoke/VarHandle" ∧ (parseMethodDescriptor yX4_mergeWithNext.desc).map (fun d => d.parameters.length) = some 1 := by decide +kernel
def f_X4_mergeWithNext_s2 (t_conditions : Int32) (t_rules : Int32) (t_sizes : Nat → Int32) (t_actions : Nat → Int32) (t_rulesWith : Nat → Int32) (x1 : Int32) (v2_2 : Int32) (t_sets_2 : Nat → Int32) : Option ((Int32 × (Nat → Int32)) ⊕ (Int32 × (Nat → Int32) × (Nat → Int32) × (Nat → Int32))) :=
  (if t_conditions ≤ v2_2 then (bd4 (f_X4_dropRule t_conditions t_rules t_sizes t_sets_2 t_actions t_rulesWith (x1 + (1 : Int32))) fun w41_0 w41_1 w41_2 w41_3 => (some (.inr (w41_0, w41_1, w41_2, w41_3)))) else (rd 48 t_sets_2 ((x1 * (4 : Int32)) + v2_2) fun z20 => (Option.bind (f_X4_setOf t_sets_2 (x1 + (1 : Int32)) v2_2) fun z26 => (some (.inl ((v2_2 + 1), (upd t_sets_2 ((x1 * (4 : Int32)) + v2_2).toNatClampNeg (z20 ||| z26))))))))
def f_X4_mergeWithNext (t_conditions : Int32) (t_rules : Int32) (t_sizes : Nat → Int32) (t_sets : Nat → Int32) (t_actions : Nat → Int32) (t_rulesWith : Nat → Int32) (x1 : Int32) : Option (Int32 × (Nat → Int32) × (Nat → Int32) × (Nat → Int32)) :=
  (wl (fun q => f_X4_mergeWithNext_s2 t_conditions t_rules t_sizes t_actions t_rulesWith x1 q.1 q.2) 5000 ((0 : Int32), t_sets))
set_option maxHeartbeats 4000000 in
set_option maxRecDepth 100000 in
theorem c_X4_mergeWithNext (l : Launch) (sz : Nat) (D : va_G) (g : Nat → ClassId) (aT : Nat → Nat) (t_conditions : Int32) (t_cases : Int32) (t_rules : Int32) (t_defaultAction : Int32) (t_sizes : Nat → Int32) (t_strides : Nat → Int32) (t_costs : Nat → Int32) (t_weights : Nat → Int32) (t_sets : Nat → Int32) (t_actions : Nat → Int32) (t_rulesWith : Nat → Int32) (x1 : Int32) (t_rules_n : Int32) (t_sets_n : Nat → Int32) (t_actions_n : Nat → Int32) (t_rulesWith_n : Nat → Int32) (hf : f_X4_mergeWithNext t_conditions t_rules t_sizes t_sets t_actions t_rulesWith x1 = some (t_rules_n, t_sets_n, t_actions_n, t_rulesWith_n)) : CM l yX4_mergeWithNext wsX4_mergeWithNext 3 104 sz D g [.ref (aT 0), .int x1] (wX4 g aT t_conditions t_cases t_rules t_defaultAction t_sizes t_strides t_costs t_weights t_sets t_actions t_rulesWith) (QMv D (wX4 g aT t_conditions t_cases t_rules t_defaultAction t_sizes t_strides t_costs t_weights t_sets t_actions t_rulesWith) sz (wX4 g aT t_conditions t_cases t_rules_n t_defaultAction t_sizes t_strides t_costs t_weights t_sets_n t_actions_n t_rulesWith_n)) := by
  refine Met.ofW (cc := cX4_mergeWithNext) (maxL := 3) (ret := none) (by decide) rfl ?_
  intro p e s m args below meth c s₁ B hml hv
  obtain ⟨rfl, hsz, hP, hK, hD0⟩ := hv
  have hx := B.exec
  have hb := B.bytes
  have hr := B.returns
  have hts := atoms_spec (ws := wsX4_mergeWithNext) B.pre
  have hown : s.vm.findClass RX4 = some m.cls := findClass_of_methodNamed B.named
  have hlocks := B.notSynchronized
  have hh0 := (show ∀ w ∈ wsX40, w ∈ wsX4_mergeWithNext from by decide +kernel)
  have hh1 := hts (.fieldLink RX4 33 "DecisionTableCompiler$Table" "conditions" "I") (by decide +kernel)
  have hh2 := hts (.fieldLink RX4 24 "DecisionTableCompiler$Table" "sets" "[I") (by decide +kernel)
  subst hsz
  have hD := hD0.self (sz := s.heap.size)
  have hA : ∀ q : Nat, s.heap.size ≤ q → va_A (wX4 g aT t_conditions t_cases t_rules t_defaultAction t_sizes t_strides t_costs t_weights t_sets t_actions t_rulesWith) s.heap.size q := fun q h => Or.inr h
  have hS : va_S (va_A (wX4 g aT t_conditions t_cases t_rules t_defaultAction t_sizes t_strides t_costs t_weights t_sets t_actions t_rulesWith) s.heap.size) s.heap s.heap [] := va_S.rf
  have hl := lv_entry ([.ref (aT 0), .int x1]) (n := 3) (Nat.le_of_ble_eq_true rfl)
  rw [lg_entry_eq]
  generalize (lg_sl ([.ref (aT 0), .int x1]) ++ List.replicate (3 - (lg_sl ([.ref (aT 0), .int x1])).length) Slot.unset).toArray = ls at hl ⊢
  replace hl : lv_has ls 3 [(0, .ref (aT 0)), (1, .int x1)] := hl
  have h := hf
  unfold f_X4_mergeWithNext at h
  obtain ⟨H, hH⟩ : ∃ H, H = s.heap := ⟨_, rfl⟩
  obtain ⟨locs, hlc⟩ : ∃ q : List Loc, q = [] := ⟨_, rfl⟩
  have hS : va_S (va_A (wX4 g aT t_conditions t_cases t_rules t_defaultAction t_sizes t_strides t_costs t_weights t_sets t_actions t_rulesWith) s.heap.size) s.heap H locs := by rw [hH, hlc]; exact hS
  replace hP : va_P D vwCl (wX4 g aT t_conditions t_cases t_rules t_defaultAction t_sizes t_strides t_costs t_weights t_sets t_actions t_rulesWith) H := by rw [hH]; exact hP
  suffices hW : W p l e (headSpec wsX4_mergeWithNext ({ frames := 3, cells := 0, slots := 0, locals := 104 })).room s m ([.ref (aT 0), .int x1] : List Value).toArray below meth c H locs 0 0 (MQ below (QMv D (wX4 g aT t_conditions t_cases t_rules t_defaultAction t_sizes t_strides t_costs t_weights t_sets t_actions t_rulesWith) s.heap.size (wX4 g aT t_conditions t_cases t_rules_n t_defaultAction t_sizes t_strides t_costs t_weights t_sets_n t_actions_n t_rulesWith_n)) ([.ref (aT 0), .int x1] : List Value).toArray s 0 0 (va_A (wX4 g aT t_conditions t_cases t_rules t_defaultAction t_sizes t_strides t_costs t_weights t_sets t_actions t_rulesWith) s.heap.size)) (F0 m 0 ls []) by rw [hH, hlc] at hW; exact hW
  clear hH hlc
  refine lv_iconst (v := 0) hx hb dX4_mergeWithNext_0 (by decide) ?_
  refine lv_istore_n (lv' := [(2, .int (0 : Int32)), (0, .ref (aT 0)), (1, .int x1)]) hx hb dX4_mergeWithNext_1 rfl hl (by decide) rfl (fun ls hl => ?_)
  have lp2 : ∀ (n : Nat) (v2_2 : Int32) (t_sets_2 : Nat → Int32) (H : Heap) (locs : List Loc), va_P D vwCl (wX4 g aT t_conditions t_cases t_rules t_defaultAction t_sizes t_strides t_costs t_weights t_sets_2 t_actions t_rulesWith) H → va_D (va_A (wX4 g aT t_conditions t_cases t_rules t_defaultAction t_sizes t_strides t_costs t_weights t_sets t_actions t_rulesWith) s.heap.size) (wX4 g aT t_conditions t_cases t_rules t_defaultAction t_sizes t_strides t_costs t_weights t_sets_2 t_actions t_rulesWith) → va_S (va_A (wX4 g aT t_conditions t_cases t_rules t_defaultAction t_sizes t_strides t_costs t_weights t_sets t_actions t_rulesWith) s.heap.size) s.heap H locs → wl (fun q => f_X4_mergeWithNext_s2 t_conditions t_rules t_sizes t_actions t_rulesWith x1 q.1 q.2) n (v2_2, t_sets_2) = some (t_rules_n, t_sets_n, t_actions_n, t_rulesWith_n) → ∀ ls : Array Slot, lv_has ls 3 [(2, .int v2_2), (0, .ref (aT 0)), (1, .int x1)] → W p l e (headSpec wsX4_mergeWithNext ({ frames := 3, cells := 0, slots := 0, locals := 104 })).room s m ([.ref (aT 0), .int x1] : List Value).toArray below meth c H locs 0 0 (MQ below (QMv D (wX4 g aT t_conditions t_cases t_rules t_defaultAction t_sizes t_strides t_costs t_weights t_sets t_actions t_rulesWith) s.heap.size (wX4 g aT t_conditions t_cases t_rules_n t_defaultAction t_sizes t_strides t_costs t_weights t_sets_n t_actions_n t_rulesWith_n)) ([.ref (aT 0), .int x1] : List Value).toArray s 0 0 (va_A (wX4 g aT t_conditions t_cases t_rules t_defaultAction t_sizes t_strides t_costs t_weights t_sets t_actions t_rulesWith) s.heap.size)) (F0 m 2 ls []) := by
    intro n
    induction n with
    | zero =>
      intro v2_2 t_sets_2 H locs hP hD hS h
      exact wl_0 h
    | succ n ih1 =>
      intro v2_2 t_sets_2 H locs hP hD hS h ls hl
      obtain ⟨o1, h, k1⟩ := wl_s h
      replace h : f_X4_mergeWithNext_s2 t_conditions t_rules t_sizes t_actions t_rulesWith x1 v2_2 t_sets_2 = some o1 := h
      unfold f_X4_mergeWithNext_s2 at h
      refine lv_iload_n hx hb dX4_mergeWithNext_2 rfl (lv_at hl 0 rfl) ?_
      refine lv_aload_n hx hb dX4_mergeWithNext_3 rfl (lv_at hl 1 rfl) ?_
      refine va_get (D := D) (ci := 4) (v := .int t_conditions) (C := RX4) (T := TX4) (N := 11) hx hb hts hh0 hown hK.1 hP 0 rfl rfl 0 (by decide) hh1 (fun _ h9 => h9) rfl dX4_mergeWithNext_4 ?_
      refine lv_icmp_ge (tgt := 37) hx hb dX4_mergeWithNext_7 (by decide) (fun c7 => ?_) (fun c7 => ?_)
      · replace h := ite_t c7 h
        refine lv_aload_n hx hb dX4_mergeWithNext_37 rfl (lv_at hl 1 rfl) ?_
        refine lv_iload_n hx hb dX4_mergeWithNext_38 rfl (lv_at hl 2 rfl) ?_
        refine lv_iconst (v := 1) hx hb dX4_mergeWithNext_39 (by decide) ?_
        refine lv_iadd hx hb dX4_mergeWithNext_40 ?_
        obtain ⟨w41_0, w41_1, w41_2, w41_3, e_41, h⟩ := bd4_s h
        refine cm_v (ws := (wX4 g aT t_conditions t_cases t_rules t_defaultAction t_sizes t_strides t_costs t_weights t_sets_2 t_actions t_rulesWith)) (isC := [0, 1, 2, 3, 4, 5, 6, 7]) (va_runV (As := [.int (x1 + (1 : Int32))]) (rest := []) ⟨hx, hb, hml, hown, hts⟩ (c_X4_dropRule l H.size D g aT t_conditions t_cases t_rules t_defaultAction t_sizes t_strides t_costs t_weights t_sets_2 t_actions t_rulesWith (x1 + (1 : Int32)) w41_0 w41_1 w41_2 w41_3 e_41) (cwV 1 hts gX4_mergeWithNext_X4_dropRule rfl rfl rfl ⟨rfl, pd_X4_dropRule⟩ ⟨Nat.le_of_ble_eq_true rfl, Nat.le_of_ble_eq_true rfl⟩) (pw_v hK hP hD (q0 := 0) (ci := 4) rfl rfl rfl) rfl rfl hl.1 rfl (lv_room (Nat.le_of_ble_eq_true rfl)) dX4_mergeWithNext_41 ⟨Nat.zero_le _, Nat.zero_le _⟩) hP hD hS hA rfl [] (wr := []) rfl (by decide) (by decide) [0, 1, 2, 3, 4, 5, 6, 7] (w2 := (wX4 g aT t_conditions t_cases w41_0 t_defaultAction t_sizes t_strides t_costs t_weights w41_1 w41_2 w41_3)) rfl (by decide) (fun H locs hP hD hS => ?_)
        replace h := Option.some.inj h
        subst h
        replace h := wk_r k1
        have hj0 := (Prod.mk.inj h).1
        have hg0 := (Prod.mk.inj h).2
        have hj1 := (Prod.mk.inj hg0).1
        have hg1 := (Prod.mk.inj hg0).2
        have hj2 := (Prod.mk.inj hg1).1
        have hg2 := (Prod.mk.inj hg1).2
        clear hg0
        clear hg1
        subst hj0
        subst hj1
        subst hj2
        subst hg2
        exact W.vret hx hb hr (fun t ht hW => ⟨⟨(), rfl, trivial, by rw [ht]; exact hP, hD⟩, hS.F ht⟩) hS.2.2 dX4_mergeWithNext_44
      · replace h := ite_f c7 h
        refine lv_aload_n hx hb dX4_mergeWithNext_10 rfl (lv_at hl 1 rfl) ?_
        refine va_get (D := D) (ci := 4) (v := .ref (aT 5)) (C := RX4) (T := TX4) (N := 11) hx hb hts hh0 hown hK.1 hP 0 rfl rfl 8 (by decide) hh2 (fun _ h9 => h9) rfl dX4_mergeWithNext_11 ?_
        refine lv_iload_n hx hb dX4_mergeWithNext_14 rfl (lv_at hl 2 rfl) ?_
        refine lv_iconst (v := 4) hx hb dX4_mergeWithNext_15 (by decide) ?_
        refine lv_imul hx hb dX4_mergeWithNext_16 ?_
        refine lv_iload_n hx hb dX4_mergeWithNext_17 rfl (lv_at hl 0 rfl) ?_
        refine lv_iadd hx hb dX4_mergeWithNext_18 ?_
        refine lv_dup2_11 hx hb dX4_mergeWithNext_19 rfl rfl ?_
        have iz20 := rd_in h
        refine va_iald hx hb hK.1 hP 5 0 rfl rfl (rd_in h) dX4_mergeWithNext_20 (lv_topi (fun z20 ez20 => ?_))
        replace h := rd_k h ez20
        refine lv_aload_n hx hb dX4_mergeWithNext_21 rfl (lv_at hl 1 rfl) ?_
        refine lv_iload_n hx hb dX4_mergeWithNext_22 rfl (lv_at hl 2 rfl) ?_
        refine lv_iconst (v := 1) hx hb dX4_mergeWithNext_23 (by decide) ?_
        refine lv_iadd hx hb dX4_mergeWithNext_24 ?_
        refine lv_iload_n hx hb dX4_mergeWithNext_25 rfl (lv_at hl 0 rfl) ?_
        obtain ⟨z26, e_26, h⟩ := bd_s h
        refine cr_i (va_runV (As := [.int (x1 + (1 : Int32)), .int v2_2]) (rest := [.int z20, .int ((x1 * (4 : Int32)) + v2_2), .ref (aT 5)]) ⟨hx, hb, hml, hown, hts⟩ (c_X4_setOf l D g aT t_conditions t_cases t_rules t_defaultAction t_sizes t_strides t_costs t_weights t_sets_2 t_actions t_rulesWith (x1 + (1 : Int32)) v2_2 z26 e_26) (cwV 2 hts gX4_mergeWithNext_X4_setOf rfl rfl rfl ⟨rfl, pd_X4_setOf⟩ ⟨Nat.le_of_ble_eq_true rfl, Nat.le_of_ble_eq_true rfl⟩) (pr_v hK hP (q0 := 0) (ci := 4) rfl rfl rfl) rfl rfl hl.1 rfl (lv_room (Nat.le_of_ble_eq_true rfl)) dX4_mergeWithNext_26 ⟨Nat.zero_le _, Nat.zero_le _⟩) ?_
        refine lv_ior hx hb dX4_mergeWithNext_29 ?_
        refine va_iast hx hb hK.1 hP hD hS 5 0 rfl rfl iz20 dX4_mergeWithNext_30 (fun H locs hP hD hS => ?_)
        replace hP : va_P D vwCl (wX4 g aT t_conditions t_cases t_rules t_defaultAction t_sizes t_strides t_costs t_weights (upd t_sets_2 ((x1 * (4 : Int32)) + v2_2).toNatClampNeg (z20 ||| z26)) t_actions t_rulesWith) H := hP
        replace hD : va_D (va_A (wX4 g aT t_conditions t_cases t_rules t_defaultAction t_sizes t_strides t_costs t_weights t_sets t_actions t_rulesWith) s.heap.size) (wX4 g aT t_conditions t_cases t_rules t_defaultAction t_sizes t_strides t_costs t_weights (upd t_sets_2 ((x1 * (4 : Int32)) + v2_2).toNatClampNeg (z20 ||| z26)) t_actions t_rulesWith) := hD
        refine lv_iinc (v := (v2_2 + 1)) (lv' := [(2, .int (v2_2 + 1)), (0, .ref (aT 0)), (1, .int x1)]) hx hb dX4_mergeWithNext_31 hl (k := 0) rfl rfl (by decide) rfl (fun ls hl => ?_)
        refine lv_goto (tgt := 2) hx hb dX4_mergeWithNext_34 (by decide) ?_
        replace h := Option.some.inj h
        subst h
        exact ih1 (v2_2 + 1) (upd t_sets_2 ((x1 * (4 : Int32)) + v2_2).toNatClampNeg (z20 ||| z26)) H locs hP hD hS (wk_l k1) ls (lv_sub hl [0, 1, 2] rfl)
  exact lp2 5000 (0 : Int32) t_sets H locs hP hD hS h ls (lv_sub hl [0, 1, 2] rfl)
