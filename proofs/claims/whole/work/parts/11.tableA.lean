theorem pd_X6_quotient : yX6_quotient.cls ≠ "java/lang/invoke/MethodHandle" ∧ yX6_quotient.cls ≠ "java/lang/invoke/VarHandle" ∧ (parseMethodDescriptor yX6_quotient.desc).map (fun d => d.parameters.length) = some 2 := by decide +kernel
def f_X6_quotient (x0 : Int32) (x1 : Int32) : Option (Int32) :=
  (if x1 = (0 : Int32) then (some (0 : Int32)) else (nz x1 (some (x0 / x1))))
set_option maxHeartbeats 4000000 in
set_option maxRecDepth 100000 in
theorem c_X6_quotient (l : Launch) (D : va_G) (g : Nat → ClassId)  (x0 : Int32) (x1 : Int32) (r : Int32) (hf : f_X6_quotient x0 x1 = some r) : CR l yX6_quotient wsX6_quotient 0 0 D g [.int x0, .int x1] [] (QRi r) := by
  refine Met.ofW (cc := cX6_quotient) (maxL := 2) (ret := (some .int)) (by decide) rfl ?_
  intro p e s m args below meth c s₁ B hml hv
  obtain ⟨rfl, hP, hK⟩ := hv
  have hx := B.exec
  have hb := B.bytes
  have hr := B.returns
  have hts := atoms_spec (ws := wsX6_quotient) B.pre
  have hown : s.vm.findClass RX6 = some m.cls := findClass_of_methodNamed B.named
  have hlocks := B.notSynchronized
  have hl := lv_entry ([.int x0, .int x1]) (n := 2) (Nat.le_of_ble_eq_true rfl)
  rw [lg_entry_eq]
  generalize (lg_sl ([.int x0, .int x1]) ++ List.replicate (2 - (lg_sl ([.int x0, .int x1])).length) Slot.unset).toArray = ls at hl ⊢
  replace hl : lv_has ls 2 [(0, .int x0), (1, .int x1)] := hl
  have h := hf
  unfold f_X6_quotient at h
  refine lv_iload_n hx hb dX6_quotient_0 rfl (lv_at hl 1 rfl) ?_
  refine lv_if_ne (tgt := 8) hx hb dX6_quotient_1 (by decide) (fun c1 => ?_) (fun c1 => ?_)
  · replace h := ite_f c1 h
    refine lv_iload_n hx hb dX6_quotient_8 rfl (lv_at hl 0 rfl) ?_
    refine lv_iload_n hx hb dX6_quotient_9 rfl (lv_at hl 1 rfl) ?_
    refine lv_idiv hx hb dX6_quotient_10 (nz_in h) ?_
    replace h := nz_k h
    cases h
    exact W.iret hx hb hr (fun t ht hW => ⟨_, rfl, rfl, ht⟩) (fun q hq => by cases hq) dX6_quotient_11
  · replace h := ite_t c1 h
    refine lv_iconst (v := 0) hx hb dX6_quotient_4 (by decide) ?_
    refine lv_goto (tgt := 11) hx hb dX6_quotient_5 (by decide) ?_
    cases h
    exact W.iret hx hb hr (fun t ht hW => ⟨_, rfl, rfl, ht⟩) (fun q hq => by cases hq) dX6_quotient_11
theorem pd_X6_remainder : yX6_remainder.cls ≠ "java/lang/invoke/MethodHandle" ∧ yX6_remainder.cls ≠ "java/lang/invoke/VarHandle" ∧ (parseMethodDescriptor yX6_remainder.desc).map (fun d => d.parameters.length) = some 2 := by decide +kernel
def f_X6_remainder (x0 : Int32) (x1 : Int32) : Option (Int32) :=
  (if x1 = (0 : Int32) then (some (0 : Int32)) else (nz x1 (some (x0 - x0 / x1 * x1))))
set_option maxHeartbeats 4000000 in
set_option maxRecDepth 100000 in
theorem c_X6_remainder (l : Launch) (D : va_G) (g : Nat → ClassId)  (x0 : Int32) (x1 : Int32) (r : Int32) (hf : f_X6_remainder x0 x1 = some r) : CR l yX6_remainder wsX6_remainder 0 0 D g [.int x0, .int x1] [] (QRi r) := by
  refine Met.ofW (cc := cX6_remainder) (maxL := 2) (ret := (some .int)) (by decide) rfl ?_
  intro p e s m args below meth c s₁ B hml hv
  obtain ⟨rfl, hP, hK⟩ := hv
  have hx := B.exec
  have hb := B.bytes
  have hr := B.returns
  have hts := atoms_spec (ws := wsX6_remainder) B.pre
  have hown : s.vm.findClass RX6 = some m.cls := findClass_of_methodNamed B.named
  have hlocks := B.notSynchronized
  have hl := lv_entry ([.int x0, .int x1]) (n := 2) (Nat.le_of_ble_eq_true rfl)
  rw [lg_entry_eq]
  generalize (lg_sl ([.int x0, .int x1]) ++ List.replicate (2 - (lg_sl ([.int x0, .int x1])).length) Slot.unset).toArray = ls at hl ⊢
  replace hl : lv_has ls 2 [(0, .int x0), (1, .int x1)] := hl
  have h := hf
  unfold f_X6_remainder at h
  refine lv_iload_n hx hb dX6_remainder_0 rfl (lv_at hl 1 rfl) ?_
  refine lv_if_ne (tgt := 8) hx hb dX6_remainder_1 (by decide) (fun c1 => ?_) (fun c1 => ?_)
  · replace h := ite_f c1 h
    refine lv_iload_n hx hb dX6_remainder_8 rfl (lv_at hl 0 rfl) ?_
    refine lv_iload_n hx hb dX6_remainder_9 rfl (lv_at hl 1 rfl) ?_
    refine lv_irem hx hb dX6_remainder_10 (nz_in h) ?_
    replace h := nz_k h
    cases h
    exact W.iret hx hb hr (fun t ht hW => ⟨_, rfl, rfl, ht⟩) (fun q hq => by cases hq) dX6_remainder_11
  · replace h := ite_t c1 h
    refine lv_iconst (v := 0) hx hb dX6_remainder_4 (by decide) ?_
    refine lv_goto (tgt := 11) hx hb dX6_remainder_5 (by decide) ?_
    cases h
    exact W.iret hx hb hr (fun t ht hW => ⟨_, rfl, rfl, ht⟩) (fun q hq => by cases hq) dX6_remainder_11
theorem pd_X4_digitOf : yX4_digitOf.cls ≠ "java/lang/invoke/MethodHandle" ∧ yX4_digitOf.cls ≠ "java/lang/invoke/VarHandle" ∧ (parseMethodDescriptor yX4_digitOf.desc).map (fun d => d.parameters.length) = some 2 := by decide +kernel
def f_X4_digitOf (t_sizes : Nat → Int32) (t_strides : Nat → Int32) (x1 : Int32) (x2 : Int32) : Option (Int32) :=
  (rd 4 t_strides x2 fun z1 => (Option.bind (f_X6_quotient x1 z1) fun z2 => (rd 4 t_sizes x2 fun z4 => (Option.bind (f_X6_remainder z2 z4) fun z5 => (some z5)))))
set_option maxHeartbeats 4000000 in
set_option maxRecDepth 100000 in
theorem c_X4_digitOf (l : Launch) (D : va_G) (g : Nat → ClassId) (aT : Nat → Nat) (t_conditions : Int32) (t_cases : Int32) (t_rules : Int32) (t_defaultAction : Int32) (t_sizes : Nat → Int32) (t_strides : Nat → Int32) (t_costs : Nat → Int32) (t_weights : Nat → Int32) (t_sets : Nat → Int32) (t_actions : Nat → Int32) (t_rulesWith : Nat → Int32) (x1 : Int32) (x2 : Int32) (r : Int32) (hf : f_X4_digitOf t_sizes t_strides x1 x2 = some r) : CR l yX4_digitOf wsX4_digitOf 1 21 D g [.ref (aT 0), .int x1, .int x2] (wX4 g aT t_conditions t_cases t_rules t_defaultAction t_sizes t_strides t_costs t_weights t_sets t_actions t_rulesWith) (QRi r) := by
  refine Met.ofW (cc := cX4_digitOf) (maxL := 3) (ret := (some .int)) (by decide) rfl ?_
  intro p e s m args below meth c s₁ B hml hv
  obtain ⟨rfl, hP, hK⟩ := hv
  have hx := B.exec
  have hb := B.bytes
  have hr := B.returns
  have hts := atoms_spec (ws := wsX4_digitOf) B.pre
  have hown : s.vm.findClass RX4 = some m.cls := findClass_of_methodNamed B.named
  have hlocks := B.notSynchronized
  have hh0 := (show ∀ w ∈ wsX40, w ∈ wsX4_digitOf from by decide +kernel)
  have hh1 := hts (.fieldLink RX4 15 "DecisionTableCompiler$Table" "strides" "[I") (by decide +kernel)
  have hh2 := hts (.initialized RX6) (by decide +kernel)
  have hh3 := hts (.static yX6_quotient) (by decide +kernel)
  have hh4 := hts (.fieldLink RX4 9 "DecisionTableCompiler$Table" "sizes" "[I") (by decide +kernel)
  have hh5 := hts (.static yX6_remainder) (by decide +kernel)
  have hl := lv_entry ([.ref (aT 0), .int x1, .int x2]) (n := 3) (Nat.le_of_ble_eq_true rfl)
  rw [lg_entry_eq]
  generalize (lg_sl ([.ref (aT 0), .int x1, .int x2]) ++ List.replicate (3 - (lg_sl ([.ref (aT 0), .int x1, .int x2])).length) Slot.unset).toArray = ls at hl ⊢
  replace hl : lv_has ls 3 [(0, .ref (aT 0)), (1, .int x1), (2, .int x2)] := hl
  have h := hf
  unfold f_X4_digitOf at h
  refine lv_iload_n hx hb dX4_digitOf_0 rfl (lv_at hl 1 rfl) ?_
  refine lv_aload_n hx hb dX4_digitOf_1 rfl (lv_at hl 0 rfl) ?_
  refine va_get (D := D) (ci := 4) (v := .ref (aT 2)) (C := RX4) (T := TX4) (N := 11) hx hb hts hh0 hown hK.1 hP 0 rfl rfl 5 (by decide) hh1 (fun _ h9 => h9) rfl dX4_digitOf_2 ?_
  refine lv_iload_n hx hb dX4_digitOf_5 rfl (lv_at hl 2 rfl) ?_
  refine va_iald hx hb hK.1 hP 2 0 rfl rfl (rd_in h) dX4_digitOf_6 (lv_topi (fun z1 ez1 => ?_))
  replace h := rd_k h ez1
  obtain ⟨z2, e_3, h⟩ := bd_s h
  refine cr_i (va_runSN (As := [.int x1, .int z1]) (rest := []) ⟨hx, hb, hml, hown, hts⟩ (c_X6_quotient l D g x1 z1 z2 e_3) ⟨va_cnB 2 hts gX4_digitOf_X6_quotient_n62 rfl rfl rfl hK.2.2.2.1 hh2 pd_X6_quotient ⟨Nat.le_of_ble_eq_true rfl, Nat.le_of_ble_eq_true rfl⟩, hh3, trivial⟩ (pr_s hK P_nil) rfl rfl hl.1 rfl (lv_room (Nat.le_of_ble_eq_true rfl)) dX4_digitOf_7 ⟨Nat.zero_le _, Nat.zero_le _⟩) ?_
  refine lv_aload_n hx hb dX4_digitOf_10 rfl (lv_at hl 0 rfl) ?_
  refine va_get (D := D) (ci := 4) (v := .ref (aT 1)) (C := RX4) (T := TX4) (N := 11) hx hb hts hh0 hown hK.1 hP 0 rfl rfl 4 (by decide) hh4 (fun _ h9 => h9) rfl dX4_digitOf_11 ?_
  refine lv_iload_n hx hb dX4_digitOf_14 rfl (lv_at hl 2 rfl) ?_
  refine va_iald hx hb hK.1 hP 1 0 rfl rfl (rd_in h) dX4_digitOf_15 (lv_topi (fun z4 ez4 => ?_))
  replace h := rd_k h ez4
  obtain ⟨z5, e_6, h⟩ := bd_s h
  refine cr_i (va_runSN (As := [.int z2, .int z4]) (rest := []) ⟨hx, hb, hml, hown, hts⟩ (c_X6_remainder l D g z2 z4 z5 e_6) ⟨va_cnB 2 hts gX4_digitOf_X6_remainder_n66 rfl rfl rfl hK.2.2.2.2 hh2 pd_X6_remainder ⟨Nat.le_of_ble_eq_true rfl, Nat.le_of_ble_eq_true rfl⟩, hh5, trivial⟩ (pr_s hK P_nil) rfl rfl hl.1 rfl (lv_room (Nat.le_of_ble_eq_true rfl)) dX4_digitOf_16 ⟨Nat.zero_le _, Nat.zero_le _⟩) ?_
  cases h
  exact W.iret hx hb hr (fun t ht hW => ⟨_, rfl, rfl, ht⟩) (fun q hq => by cases hq) dX4_digitOf_19
theorem pd_X4_hasCondition : yX4_hasCondition.cls ≠ "java/lang/invoke/MethodHandle" ∧ yX4_hasCondition.cls ≠ "java/lang/invoke/VarHandle" ∧ (parseMethodDescriptor yX4_hasCondition.desc).map (fun d => d.parameters.length) = some 1 := by decide +kernel
def f_X4_hasCondition (t_conditions : Int32) (x1 : Int32) : Option (Bool) :=
  (if x1 < (0 : Int32) then (some false) else (if t_conditions ≤ x1 then (some false) else (some true)))
set_option maxHeartbeats 4000000 in
set_option maxRecDepth 100000 in
theorem c_X4_hasCondition (l : Launch) (D : va_G) (g : Nat → ClassId) (aT : Nat → Nat) (t_conditions : Int32) (t_cases : Int32) (t_rules : Int32) (t_defaultAction : Int32) (t_sizes : Nat → Int32) (t_strides : Nat → Int32) (t_costs : Nat → Int32) (t_weights : Nat → Int32) (t_sets : Nat → Int32) (t_actions : Nat → Int32) (t_rulesWith : Nat → Int32) (x1 : Int32) (r : Bool) (hf : f_X4_hasCondition t_conditions x1 = some r) : CR l yX4_hasCondition wsX4_hasCondition 0 0 D g [.ref (aT 0), .int x1] (wX4 g aT t_conditions t_cases t_rules t_defaultAction t_sizes t_strides t_costs t_weights t_sets t_actions t_rulesWith) (QRi (bI r)) := by
  refine Met.ofW (cc := cX4_hasCondition) (maxL := 2) (ret := (some .boolean)) (by decide) rfl ?_
  intro p e s m args below meth c s₁ B hml hv
  obtain ⟨rfl, hP, hK⟩ := hv
  have hx := B.exec
  have hb := B.bytes
  have hr := B.returns
  have hts := atoms_spec (ws := wsX4_hasCondition) B.pre
  have hown : s.vm.findClass RX4 = some m.cls := findClass_of_methodNamed B.named
  have hlocks := B.notSynchronized
  have hh0 := (show ∀ w ∈ wsX40, w ∈ wsX4_hasCondition from by decide +kernel)
  have hh1 := hts (.fieldLink RX4 33 "DecisionTableCompiler$Table" "conditions" "I") (by decide +kernel)
  have hl := lv_entry ([.ref (aT 0), .int x1]) (n := 2) (Nat.le_of_ble_eq_true rfl)
  rw [lg_entry_eq]
  generalize (lg_sl ([.ref (aT 0), .int x1]) ++ List.replicate (2 - (lg_sl ([.ref (aT 0), .int x1])).length) Slot.unset).toArray = ls at hl ⊢
  replace hl : lv_has ls 2 [(0, .ref (aT 0)), (1, .int x1)] := hl
  have h := hf
  unfold f_X4_hasCondition at h
  refine lv_iload_n hx hb dX4_hasCondition_0 rfl (lv_at hl 1 rfl) ?_
  refine lv_if_lt (tgt := 16) hx hb dX4_hasCondition_1 (by decide) (fun c1 => ?_) (fun c1 => ?_)
  · replace h := ite_t c1 h
    refine lv_iconst (v := 0) hx hb dX4_hasCondition_16 (by decide) ?_
    cases h
    exact W.zret hx hb hr rfl (fun t ht hW => ⟨_, rfl, rfl, ht⟩) (fun q hq => by cases hq) dX4_hasCondition_17
  · replace h := ite_f c1 h
    refine lv_iload_n hx hb dX4_hasCondition_4 rfl (lv_at hl 1 rfl) ?_
    refine lv_aload_n hx hb dX4_hasCondition_5 rfl (lv_at hl 0 rfl) ?_
    refine va_get (D := D) (ci := 4) (v := .int t_conditions) (C := RX4) (T := TX4) (N := 11) hx hb hts hh0 hown hK.1 hP 0 rfl rfl 0 (by decide) hh1 (fun _ h9 => h9) rfl dX4_hasCondition_6 ?_
    refine lv_icmp_ge (tgt := 16) hx hb dX4_hasCondition_9 (by decide) (fun c9 => ?_) (fun c9 => ?_)
    · replace h := ite_t c9 h
      refine lv_iconst (v := 0) hx hb dX4_hasCondition_16 (by decide) ?_
      cases h
      exact W.zret hx hb hr rfl (fun t ht hW => ⟨_, rfl, rfl, ht⟩) (fun q hq => by cases hq) dX4_hasCondition_17
    · replace h := ite_f c9 h
      refine lv_iconst (v := 1) hx hb dX4_hasCondition_12 (by decide) ?_
      refine lv_goto (tgt := 17) hx hb dX4_hasCondition_13 (by decide) ?_
      cases h
      exact W.zret hx hb hr rfl (fun t ht hW => ⟨_, rfl, rfl, ht⟩) (fun q hq => by cases hq) dX4_hasCondition_17
theorem pd_X4_hasValue : yX4_hasValue.cls ≠ "java/lang/invoke/MethodHandle" ∧ yX4_hasValue.cls ≠ "java/lang/invoke/VarHandle" ∧ (parseMethodDescriptor yX4_hasValue.desc).map (fun d => d.parameters.length) = some 2 := by decide +kernel
def f_X4_hasValue (t_conditions : Int32) (t_sizes : Nat → Int32) (x1 : Int32) (x2 : Int32) : Option (Bool) :=
  (Option.bind (f_X4_hasCondition t_conditions x1) fun z1 => (if z1 = true then (if x2 < (0 : Int32) then (some false) else (rd 4 t_sizes x1 fun z3 => (if z3 ≤ x2 then (some false) else (some true)))) else (some false)))
set_option maxHeartbeats 4000000 in
set_option maxRecDepth 100000 in
theorem c_X4_hasValue (l : Launch) (D : va_G) (g : Nat → ClassId) (aT : Nat → Nat) (t_conditions : Int32) (t_cases : Int32) (t_rules : Int32) (t_defaultAction : Int32) (t_sizes : Nat → Int32) (t_strides : Nat → Int32) (t_costs : Nat → Int32) (t_weights : Nat → Int32) (t_sets : Nat → Int32) (t_actions : Nat → Int32) (t_rulesWith : Nat → Int32) (x1 : Int32) (x2 : Int32) (r : Bool) (hf : f_X4_hasValue t_conditions t_sizes x1 x2 = some r) : CR l yX4_hasValue wsX4_hasValue 1 21 D g [.ref (aT 0), .int x1, .int x2] (wX4 g aT t_conditions t_cases t_rules t_defaultAction t_sizes t_strides t_costs t_weights t_sets t_actions t_rulesWith) (QRi (bI r)) := by
  refine Met.ofW (cc := cX4_hasValue) (maxL := 3) (ret := (some .boolean)) (by decide) rfl ?_
  intro p e s m args below meth c s₁ B hml hv
  obtain ⟨rfl, hP, hK⟩ := hv
  have hx := B.exec
  have hb := B.bytes
  have hr := B.returns
  have hts := atoms_spec (ws := wsX4_hasValue) B.pre
  have hown : s.vm.findClass RX4 = some m.cls := findClass_of_methodNamed B.named
  have hlocks := B.notSynchronized
  have hh0 := (show ∀ w ∈ wsX40, w ∈ wsX4_hasValue from by decide +kernel)
  have hh1 := hts (.fieldLink RX4 9 "DecisionTableCompiler$Table" "sizes" "[I") (by decide +kernel)
  have hl := lv_entry ([.ref (aT 0), .int x1, .int x2]) (n := 3) (Nat.le_of_ble_eq_true rfl)
  rw [lg_entry_eq]
  generalize (lg_sl ([.ref (aT 0), .int x1, .int x2]) ++ List.replicate (3 - (lg_sl ([.ref (aT 0), .int x1, .int x2])).length) Slot.unset).toArray = ls at hl ⊢
  replace hl : lv_has ls 3 [(0, .ref (aT 0)), (1, .int x1), (2, .int x2)] := hl
  have h := hf
  unfold f_X4_hasValue at h
  refine lv_aload_n hx hb dX4_hasValue_0 rfl (lv_at hl 0 rfl) ?_
  refine lv_iload_n hx hb dX4_hasValue_1 rfl (lv_at hl 1 rfl) ?_
  obtain ⟨z1, e_2, h⟩ := bd_s h
  refine cr_i (va_runV (As := [.int x1]) (rest := []) ⟨hx, hb, hml, hown, hts⟩ (c_X4_hasCondition l D g aT t_conditions t_cases t_rules t_defaultAction t_sizes t_strides t_costs t_weights t_sets t_actions t_rulesWith x1 z1 e_2) (cwV 1 hts gX4_hasValue_X4_hasCondition rfl rfl rfl ⟨rfl, pd_X4_hasCondition⟩ ⟨Nat.le_of_ble_eq_true rfl, Nat.le_of_ble_eq_true rfl⟩) (pr_v hK hP (q0 := 0) (ci := 4) rfl rfl rfl) rfl rfl hl.1 rfl (lv_room (Nat.le_of_ble_eq_true rfl)) dX4_hasValue_2 ⟨Nat.zero_le _, Nat.zero_le _⟩) ?_
  refine lb_eq (tgt := 26) hx hb dX4_hasValue_5 (by decide) (fun c5 => ?_) (fun c5 => ?_)
  · replace h := ite_t c5 h
    refine lv_iload_n hx hb dX4_hasValue_8 rfl (lv_at hl 2 rfl) ?_
    refine lv_if_lt (tgt := 26) hx hb dX4_hasValue_9 (by decide) (fun c9 => ?_) (fun c9 => ?_)
    · replace h := ite_t c9 h
      refine lv_iconst (v := 0) hx hb dX4_hasValue_26 (by decide) ?_
      cases h
      exact W.zret hx hb hr rfl (fun t ht hW => ⟨_, rfl, rfl, ht⟩) (fun q hq => by cases hq) dX4_hasValue_27
    · replace h := ite_f c9 h
      refine lv_iload_n hx hb dX4_hasValue_12 rfl (lv_at hl 2 rfl) ?_
      refine lv_aload_n hx hb dX4_hasValue_13 rfl (lv_at hl 0 rfl) ?_
      refine va_get (D := D) (ci := 4) (v := .ref (aT 1)) (C := RX4) (T := TX4) (N := 11) hx hb hts hh0 hown hK.1 hP 0 rfl rfl 4 (by decide) hh1 (fun _ h9 => h9) rfl dX4_hasValue_14 ?_
      refine lv_iload_n hx hb dX4_hasValue_17 rfl (lv_at hl 1 rfl) ?_
      refine va_iald hx hb hK.1 hP 1 0 rfl rfl (rd_in h) dX4_hasValue_18 (lv_topi (fun z3 ez3 => ?_))
      replace h := rd_k h ez3
      refine lv_icmp_ge (tgt := 26) hx hb dX4_hasValue_19 (by decide) (fun c19 => ?_) (fun c19 => ?_)
      · replace h := ite_t c19 h
        refine lv_iconst (v := 0) hx hb dX4_hasValue_26 (by decide) ?_
        cases h
        exact W.zret hx hb hr rfl (fun t ht hW => ⟨_, rfl, rfl, ht⟩) (fun q hq => by cases hq) dX4_hasValue_27
      · replace h := ite_f c19 h
        refine lv_iconst (v := 1) hx hb dX4_hasValue_22 (by decide) ?_
        refine lv_goto (tgt := 27) hx hb dX4_hasValue_23 (by decide) ?_
        cases h
        exact W.zret hx hb hr rfl (fun t ht hW => ⟨_, rfl, rfl, ht⟩) (fun q hq => by cases hq) dX4_hasValue_27
  · replace h := ite_f c5 h
    refine lv_iconst (v := 0) hx hb dX4_hasValue_26 (by decide) ?_
    cases h
    exact W.zret hx hb hr rfl (fun t ht hW => ⟨_, rfl, rfl, ht⟩) (fun q hq => by cases hq) dX4_hasValue_27
theorem pd_X4_rulesFor : yX4_rulesFor.cls ≠ "java/lang/invoke/MethodHandle" ∧ yX4_rulesFor.cls ≠ "java/lang/invoke/VarHandle" ∧ (parseMethodDescriptor yX4_rulesFor.desc).map (fun d => d.parameters.length) = some 1 := by decide +kernel
def f_X4_rulesFor_s11 (t_conditions : Int32) (t_sizes : Nat → Int32) (t_strides : Nat → Int32) (t_rulesWith : Nat → Int32) (x1 : Int32) (v2_11 : Int32) (v3_11 : Int32) : Option ((Int32 × Int32) ⊕ (Int32)) :=
  (if t_conditions ≤ v3_11 then (some (.inr v2_11)) else (Option.bind (f_X4_digitOf t_sizes t_strides x1 v3_11) fun z2 => (rd 20 t_rulesWith ((v3_11 * (5 : Int32)) + z2) fun z4 => (some (.inl ((v2_11 &&& z4), (v3_11 + 1)))))))
def f_X4_rulesFor (t_conditions : Int32) (t_rules : Int32) (t_sizes : Nat → Int32) (t_strides : Nat → Int32) (t_rulesWith : Nat → Int32) (x1 : Int32) : Option (Int32) :=
  (nm (((1 : Int32) <<< (t_rules &&& 31)) - (1 : Int32)) fun z1 => (wl (fun q => f_X4_rulesFor_s11 t_conditions t_sizes t_strides t_rulesWith x1 q.1 q.2) 5000 (z1, (0 : Int32))))
set_option maxHeartbeats 4000000 in
set_option maxRecDepth 100000 in
theorem c_X4_rulesFor (l : Launch) (D : va_G) (g : Nat → ClassId) (aT : Nat → Nat) (t_conditions : Int32) (t_cases : Int32) (t_rules : Int32) (t_defaultAction : Int32) (t_sizes : Nat → Int32) (t_strides : Nat → Int32) (t_costs : Nat → Int32) (t_weights : Nat → Int32) (t_sets : Nat → Int32) (t_actions : Nat → Int32) (t_rulesWith : Nat → Int32) (x1 : Int32) (r : Int32) (hf : f_X4_rulesFor t_conditions t_rules t_sizes t_strides t_rulesWith x1 = some r) : CR l yX4_rulesFor wsX4_rulesFor 2 43 D g [.ref (aT 0), .int x1] (wX4 g aT t_conditions t_cases t_rules t_defaultAction t_sizes t_strides t_costs t_weights t_sets t_actions t_rulesWith) (QRi r) := by
  refine Met.ofW (cc := cX4_rulesFor) (maxL := 4) (ret := (some .int)) (by decide) rfl ?_
  intro p e s m args below meth c s₁ B hml hv
  obtain ⟨rfl, hP, hK⟩ := hv
  have hx := B.exec
  have hb := B.bytes
  have hr := B.returns
  have hts := atoms_spec (ws := wsX4_rulesFor) B.pre
  have hown : s.vm.findClass RX4 = some m.cls := findClass_of_methodNamed B.named
  have hlocks := B.notSynchronized
  have hh0 := (show ∀ w ∈ wsX40, w ∈ wsX4_rulesFor from by decide +kernel)
  have hh1 := hts (.fieldLink RX4 40 "DecisionTableCompiler$Table" "rules" "I") (by decide +kernel)
  have hh2 := hts (.fieldLink RX4 33 "DecisionTableCompiler$Table" "conditions" "I") (by decide +kernel)
  have hh3 := hts (.fieldLink RX4 30 "DecisionTableCompiler$Table" "rulesWith" "[I") (by decide +kernel)
  have hl := lv_entry ([.ref (aT 0), .int x1]) (n := 4) (Nat.le_of_ble_eq_true rfl)
  rw [lg_entry_eq]
  generalize (lg_sl ([.ref (aT 0), .int x1]) ++ List.replicate (4 - (lg_sl ([.ref (aT 0), .int x1])).length) Slot.unset).toArray = ls at hl ⊢
  replace hl : lv_has ls 4 [(0, .ref (aT 0)), (1, .int x1)] := hl
  have h := hf
  unfold f_X4_rulesFor at h
  refine lv_iconst (v := 1) hx hb dX4_rulesFor_0 (by decide) ?_
  refine lv_aload_n hx hb dX4_rulesFor_1 rfl (lv_at hl 0 rfl) ?_
  refine va_get (D := D) (ci := 4) (v := .int t_rules) (C := RX4) (T := TX4) (N := 11) hx hb hts hh0 hown hK.1 hP 0 rfl rfl 2 (by decide) hh1 (fun _ h9 => h9) rfl dX4_rulesFor_2 ?_
  refine lv_ishl hx hb dX4_rulesFor_5 ?_
  refine lv_iconst (v := 1) hx hb dX4_rulesFor_6 (by decide) ?_
  refine lv_isub hx hb dX4_rulesFor_7 ?_
  refine lv_topi (fun z1 ez1 => ?_)
  replace h := nm_n h ez1
  refine lv_istore_n (lv' := [(2, .int z1), (0, .ref (aT 0)), (1, .int x1)]) hx hb dX4_rulesFor_8 rfl hl (by decide) rfl (fun ls hl => ?_)
  refine lv_iconst (v := 0) hx hb dX4_rulesFor_9 (by decide) ?_
  refine lv_istore_n (lv' := [(3, .int (0 : Int32)), (2, .int z1), (0, .ref (aT 0)), (1, .int x1)]) hx hb dX4_rulesFor_10 rfl hl (by decide) rfl (fun ls hl => ?_)
  have lp11 : ∀ (n : Nat) (v2_11 : Int32) (v3_11 : Int32), wl (fun q => f_X4_rulesFor_s11 t_conditions t_sizes t_strides t_rulesWith x1 q.1 q.2) n (v2_11, v3_11) = some r → ∀ ls : Array Slot, lv_has ls 4 [(3, .int v3_11), (2, .int v2_11), (0, .ref (aT 0)), (1, .int x1)] → W p l e (headSpec wsX4_rulesFor ({ frames := 2, cells := 0, slots := 0, locals := 43 })).room s m ([.ref (aT 0), .int x1] : List Value).toArray below meth c s.heap [] 0 0 (MQ below (QRi r) ([.ref (aT 0), .int x1] : List Value).toArray s 0 0 (fun _ => False)) (F0 m 11 ls []) := by
    intro n
    induction n with
    | zero =>
      intro v2_11 v3_11 h
      exact wl_0 h
    | succ n ih1 =>
      intro v2_11 v3_11 h ls hl
      obtain ⟨o1, h, k1⟩ := wl_s h
      replace h : f_X4_rulesFor_s11 t_conditions t_sizes t_strides t_rulesWith x1 v2_11 v3_11 = some o1 := h
      unfold f_X4_rulesFor_s11 at h
      refine lv_iload_n hx hb dX4_rulesFor_11 rfl (lv_at hl 0 rfl) ?_
      refine lv_aload_n hx hb dX4_rulesFor_12 rfl (lv_at hl 2 rfl) ?_
      refine va_get (D := D) (ci := 4) (v := .int t_conditions) (C := RX4) (T := TX4) (N := 11) hx hb hts hh0 hown hK.1 hP 0 rfl rfl 0 (by decide) hh2 (fun _ h9 => h9) rfl dX4_rulesFor_13 ?_
      refine lv_icmp_ge (tgt := 43) hx hb dX4_rulesFor_16 (by decide) (fun c16 => ?_) (fun c16 => ?_)
      · replace h := ite_t c16 h
        refine lv_iload_n hx hb dX4_rulesFor_43 rfl (lv_at hl 1 rfl) ?_
        cases h
        replace h := wk_r k1
        cases h
        exact W.iret hx hb hr (fun t ht hW => ⟨_, rfl, rfl, ht⟩) (fun q hq => by cases hq) dX4_rulesFor_44
      · replace h := ite_f c16 h
        refine lv_iload_n hx hb dX4_rulesFor_19 rfl (lv_at hl 1 rfl) ?_
        refine lv_aload_n hx hb dX4_rulesFor_20 rfl (lv_at hl 2 rfl) ?_
        refine va_get (D := D) (ci := 4) (v := .ref (aT 7)) (C := RX4) (T := TX4) (N := 11) hx hb hts hh0 hown hK.1 hP 0 rfl rfl 10 (by decide) hh3 (fun _ h9 => h9) rfl dX4_rulesFor_21 ?_
        refine lv_iload_n hx hb dX4_rulesFor_24 rfl (lv_at hl 0 rfl) ?_
        refine lv_iconst (v := 5) hx hb dX4_rulesFor_25 (by decide) ?_
        refine lv_imul hx hb dX4_rulesFor_26 ?_
        refine lv_aload_n hx hb dX4_rulesFor_27 rfl (lv_at hl 2 rfl) ?_
        refine lv_iload_n hx hb dX4_rulesFor_28 rfl (lv_at hl 3 rfl) ?_
        refine lv_iload_n hx hb dX4_rulesFor_29 rfl (lv_at hl 0 rfl) ?_
        obtain ⟨z2, e_3, h⟩ := bd_s h
        refine cr_i (va_runV (As := [.int x1, .int v3_11]) (rest := [.int (v3_11 * (5 : Int32)), .ref (aT 7), .int v2_11]) ⟨hx, hb, hml, hown, hts⟩ (c_X4_digitOf l D g aT t_conditions t_cases t_rules t_defaultAction t_sizes t_strides t_costs t_weights t_sets t_actions t_rulesWith x1 v3_11 z2 e_3) (cwV 2 hts gX4_rulesFor_X4_digitOf rfl rfl rfl ⟨rfl, pd_X4_digitOf⟩ ⟨Nat.le_of_ble_eq_true rfl, Nat.le_of_ble_eq_true rfl⟩) (pr_v hK hP (q0 := 0) (ci := 4) rfl rfl rfl) rfl rfl hl.1 rfl (lv_room (Nat.le_of_ble_eq_true rfl)) dX4_rulesFor_30 ⟨Nat.zero_le _, Nat.zero_le _⟩) ?_
        refine lv_iadd hx hb dX4_rulesFor_33 ?_
        refine va_iald hx hb hK.1 hP 7 0 rfl rfl (rd_in h) dX4_rulesFor_34 (lv_topi (fun z4 ez4 => ?_))
        replace h := rd_k h ez4
        refine lv_iand hx hb dX4_rulesFor_35 ?_
        refine lv_istore_n (lv' := [(2, .int (v2_11 &&& z4)), (3, .int v3_11), (0, .ref (aT 0)), (1, .int x1)]) hx hb dX4_rulesFor_36 rfl hl (by decide) rfl (fun ls hl => ?_)
        refine lv_iinc (v := (v3_11 + 1)) (lv' := [(3, .int (v3_11 + 1)), (2, .int (v2_11 &&& z4)), (0, .ref (aT 0)), (1, .int x1)]) hx hb dX4_rulesFor_37 hl (k := 1) rfl rfl (by decide) rfl (fun ls hl => ?_)
        refine lv_goto (tgt := 11) hx hb dX4_rulesFor_40 (by decide) ?_
        cases h
        exact ih1 (v2_11 &&& z4) (v3_11 + 1) (wk_l k1) ls (lv_sub hl [0, 1, 2, 3] rfl)
  exact lp11 5000 z1 (0 : Int32) h ls (lv_sub hl [0, 1, 2, 3] rfl)
