theorem pd_X1_digitIn : yX1_digitIn.cls ≠ "java/lang/invoke/MethodHandle" ∧ yX1_digitIn.cls ≠ "java/lang/invoke/VarHandle" ∧ (parseMethodDescriptor yX1_digitIn.desc).map (fun d => d.parameters.length) = some 3 := by decide +kernel
def f_X1_digitIn (p_steps : Nat → Int32) (t_sizes : Nat → Int32) (x1 : Int32) (x2 : Int32) : Option (Int32) :=
  (rd 4 p_steps x2 fun z6 => (Option.bind (f_X6_quotient x1 z6) fun z7 => (nm (t_sizes x2.toNatClampNeg) fun z15 => (Option.bind (f_X6_remainder z7 (z15 + (1 : Int32))) fun z18 => (some z18)))))
set_option maxHeartbeats 4000000 in
set_option maxRecDepth 100000 in
theorem c_X1_digitIn (l : Launch) (D : va_G) (g : Nat → ClassId) (aP aT : Nat → Nat) (p_cubes : Int32) (p_steps : Nat → Int32) (p_weights : Nat → Int32) (p_actions : Nat → Int32) (p_ranks : Nat → Int64) (t_conditions : Int32) (t_cases : Int32) (t_rules : Int32) (t_defaultAction : Int32) (t_sizes : Nat → Int32) (t_strides : Nat → Int32) (t_costs : Nat → Int32) (t_weights : Nat → Int32) (t_sets : Nat → Int32) (t_actions : Nat → Int32) (t_rulesWith : Nat → Int32) (x1 : Int32) (x2 : Int32) (r : Int32) (hf : f_X1_digitIn p_steps t_sizes x1 x2 = some r) : CR l yX1_digitIn wsX1_digitIn 1 21 D g [.ref (aP 0), .int x1, .int x2, .ref (aT 0)] (wX1 g aP p_cubes p_steps p_weights p_actions p_ranks ++ (wX4 g aT t_conditions t_cases t_rules t_defaultAction t_sizes t_strides t_costs t_weights t_sets t_actions t_rulesWith)) (QRi r) := by
  refine Met.ofW (cc := cX1_digitIn) (maxL := 4) (ret := (some .int)) (by decide) rfl ?_
  intro p e s m args below meth c s₁ B hml hv
  obtain ⟨rfl, hP, hK⟩ := hv
  have hx := B.exec
  have hb := B.bytes
  have hr := B.returns
  have hts := atoms_spec (ws := wsX1_digitIn) B.pre
  have hown : s.vm.findClass RX1 = some m.cls := findClass_of_methodNamed B.named
  have hlocks := B.notSynchronized
  have hh0 := (show ∀ w ∈ wsX10, w ∈ wsX1_digitIn from by decide +kernel)
  have hh1 := hts (.fieldLink RX1 9 "DecisionTableCompiler$Planner" "steps" "[I") (by decide +kernel)
  have hh2 := hts (.initialized RX6) (by decide +kernel)
  have hh3 := hts (.static yX6_quotient) (by decide +kernel)
  have hh4 := (show ∀ w ∈ wsX40, w ∈ wsX1_digitIn from by decide +kernel)
  have hh5 := hts (.fieldLink RX1 34 "DecisionTableCompiler$Table" "sizes" "[I") (by decide +kernel)
  have hh6 := hts (.static yX6_remainder) (by decide +kernel)
  have hl := lv_entry ([.ref (aP 0), .int x1, .int x2, .ref (aT 0)]) (n := 4) (Nat.le_of_ble_eq_true rfl)
  rw [lg_entry_eq]
  generalize (lg_sl ([.ref (aP 0), .int x1, .int x2, .ref (aT 0)]) ++ List.replicate (4 - (lg_sl ([.ref (aP 0), .int x1, .int x2, .ref (aT 0)])).length) Slot.unset).toArray = ls at hl ⊢
  replace hl : lv_has ls 4 [(0, .ref (aP 0)), (1, .int x1), (2, .int x2), (3, .ref (aT 0))] := hl
  have h := hf
  unfold f_X1_digitIn at h
  refine lv_iload_n hx hb dX1_digitIn_0 rfl (lv_at hl 1 rfl) ?_
  refine lv_aload_n hx hb dX1_digitIn_1 rfl (lv_at hl 0 rfl) ?_
  refine va_get (D := D) (ci := 1) (v := .ref (aP 1)) (C := RX1) (T := TX1) (N := 5) hx hb hts hh0 hown hK.1 hP 0 rfl rfl 1 (by decide) hh1 (fun _ h9 => h9) rfl dX1_digitIn_2 ?_
  refine lv_iload_n hx hb dX1_digitIn_5 rfl (lv_at hl 2 rfl) ?_
  have iz6 := rd_in h
  refine va_iald hx hb hK.1 hP 1 0 rfl rfl (rd_in h) dX1_digitIn_6 (lv_topi (fun z6 ez6 => ?_))
  replace h := rd_k h ez6
  obtain ⟨z7, e_7, h⟩ := bd_s h
  refine cr_i (va_runSN (As := [.int x1, .int z6]) (rest := []) ⟨hx, hb, hml, hown, hts⟩ (c_X6_quotient l D g x1 z6 z7 e_7) ⟨va_cnB 2 hts gX1_digitIn_X6_quotient_n72 rfl rfl rfl hK.2.1 hh2 pd_X6_quotient ⟨Nat.le_of_ble_eq_true rfl, Nat.le_of_ble_eq_true rfl⟩, hh3, trivial⟩ (pr_s hK P_nil) rfl rfl hl.1 rfl (lv_room (Nat.le_of_ble_eq_true rfl)) dX1_digitIn_7 ⟨Nat.zero_le _, Nat.zero_le _⟩) ?_
  refine lv_aload_n hx hb dX1_digitIn_10 rfl (lv_at hl 3 rfl) ?_
  refine va_get (D := D) (ci := 4) (v := .ref (aT 1)) (C := RX4) (T := TX4) (N := 11) hx hb hts hh4 hown hK.1 hP 5 rfl rfl 4 (by decide) hh5 (fun _ h9 => h9) rfl dX1_digitIn_11 ?_
  refine lv_iload_n hx hb dX1_digitIn_14 rfl (lv_at hl 2 rfl) ?_
  have iz15 := iz6
  refine va_iald hx hb hK.1 hP 6 0 rfl rfl iz15 dX1_digitIn_15 (lv_topi (fun z15 ez15 => ?_))
  replace h := nm_n h ez15
  refine lv_iconst (v := 1) hx hb dX1_digitIn_16 (by decide) ?_
  refine lv_iadd hx hb dX1_digitIn_17 ?_
  obtain ⟨z18, e_18, h⟩ := bd_s h
  refine cr_i (va_runSN (As := [.int z7, .int (z15 + (1 : Int32))]) (rest := []) ⟨hx, hb, hml, hown, hts⟩ (c_X6_remainder l D g z7 (z15 + (1 : Int32)) z18 e_18) ⟨va_cnB 2 hts gX1_digitIn_X6_remainder_n76 rfl rfl rfl hK.2.2.1 hh2 pd_X6_remainder ⟨Nat.le_of_ble_eq_true rfl, Nat.le_of_ble_eq_true rfl⟩, hh6, trivial⟩ (pr_s hK P_nil) rfl rfl hl.1 rfl (lv_room (Nat.le_of_ble_eq_true rfl)) dX1_digitIn_18 ⟨Nat.zero_le _, Nat.zero_le _⟩) ?_
  replace h := Option.some.inj h
  subst h
  exact W.iret hx hb hr (fun t ht hW => ⟨_, rfl, rfl, ht⟩) (fun q hq => by cases hq) dX1_digitIn_21
theorem pd_X1_isOpen : yX1_isOpen.cls ≠ "java/lang/invoke/MethodHandle" ∧ yX1_isOpen.cls ≠ "java/lang/invoke/VarHandle" ∧ (parseMethodDescriptor yX1_isOpen.desc).map (fun d => d.parameters.length) = some 3 := by decide +kernel
def f_X1_isOpen (p_steps : Nat → Int32) (t_sizes : Nat → Int32) (x1 : Int32) (x2 : Int32) : Option (Bool) :=
  (Option.bind (f_X1_digitIn p_steps t_sizes x1 x2) fun z4 => (rd 4 t_sizes x2 fun z12 => (if z4 = z12 then (some true) else (some false))))
set_option maxHeartbeats 4000000 in
set_option maxRecDepth 100000 in
theorem c_X1_isOpen (l : Launch) (D : va_G) (g : Nat → ClassId) (aP aT : Nat → Nat) (p_cubes : Int32) (p_steps : Nat → Int32) (p_weights : Nat → Int32) (p_actions : Nat → Int32) (p_ranks : Nat → Int64) (t_conditions : Int32) (t_cases : Int32) (t_rules : Int32) (t_defaultAction : Int32) (t_sizes : Nat → Int32) (t_strides : Nat → Int32) (t_costs : Nat → Int32) (t_weights : Nat → Int32) (t_sets : Nat → Int32) (t_actions : Nat → Int32) (t_rulesWith : Nat → Int32) (x1 : Int32) (x2 : Int32) (r : Bool) (hf : f_X1_isOpen p_steps t_sizes x1 x2 = some r) : CR l yX1_isOpen wsX1_isOpen 2 44 D g [.ref (aP 0), .int x1, .int x2, .ref (aT 0)] (wX1 g aP p_cubes p_steps p_weights p_actions p_ranks ++ (wX4 g aT t_conditions t_cases t_rules t_defaultAction t_sizes t_strides t_costs t_weights t_sets t_actions t_rulesWith)) (QRi (bI r)) := by
  refine Met.ofW (cc := cX1_isOpen) (maxL := 4) (ret := (some .boolean)) (by decide) rfl ?_
  intro p e s m args below meth c s₁ B hml hv
  obtain ⟨rfl, hP, hK⟩ := hv
  have hx := B.exec
  have hb := B.bytes
  have hr := B.returns
  have hts := atoms_spec (ws := wsX1_isOpen) B.pre
  have hown : s.vm.findClass RX1 = some m.cls := findClass_of_methodNamed B.named
  have hlocks := B.notSynchronized
  have hh0 := (show ∀ w ∈ wsX40, w ∈ wsX1_isOpen from by decide +kernel)
  have hh1 := hts (.fieldLink RX1 34 "DecisionTableCompiler$Table" "sizes" "[I") (by decide +kernel)
  have hl := lv_entry ([.ref (aP 0), .int x1, .int x2, .ref (aT 0)]) (n := 4) (Nat.le_of_ble_eq_true rfl)
  rw [lg_entry_eq]
  generalize (lg_sl ([.ref (aP 0), .int x1, .int x2, .ref (aT 0)]) ++ List.replicate (4 - (lg_sl ([.ref (aP 0), .int x1, .int x2, .ref (aT 0)])).length) Slot.unset).toArray = ls at hl ⊢
  replace hl : lv_has ls 4 [(0, .ref (aP 0)), (1, .int x1), (2, .int x2), (3, .ref (aT 0))] := hl
  have h := hf
  unfold f_X1_isOpen at h
  refine lv_aload_n hx hb dX1_isOpen_0 rfl (lv_at hl 0 rfl) ?_
  refine lv_iload_n hx hb dX1_isOpen_1 rfl (lv_at hl 1 rfl) ?_
  refine lv_iload_n hx hb dX1_isOpen_2 rfl (lv_at hl 2 rfl) ?_
  refine lv_aload_n hx hb dX1_isOpen_3 rfl (lv_at hl 3 rfl) ?_
  obtain ⟨z4, e_4, h⟩ := bd_s h
  refine cr_i (va_runV (As := [.int x1, .int x2, .ref (aT 0)]) (rest := []) ⟨hx, hb, hml, hown, hts⟩ (c_X1_digitIn l D g aP aT p_cubes p_steps p_weights p_actions p_ranks t_conditions t_cases t_rules t_defaultAction t_sizes t_strides t_costs t_weights t_sets t_actions t_rulesWith x1 x2 z4 e_4) (cwV 3 hts gX1_isOpen_X1_digitIn rfl rfl rfl ⟨rfl, pd_X1_digitIn⟩ ⟨Nat.le_of_ble_eq_true rfl, Nat.le_of_ble_eq_true rfl⟩) (pr_v hK hP (q0 := 0) (ci := 1) rfl rfl rfl) rfl rfl hl.1 rfl (lv_room (Nat.le_of_ble_eq_true rfl)) dX1_isOpen_4 ⟨Nat.zero_le _, Nat.zero_le _⟩) ?_
  refine lv_aload_n hx hb dX1_isOpen_7 rfl (lv_at hl 3 rfl) ?_
  refine va_get (D := D) (ci := 4) (v := .ref (aT 1)) (C := RX4) (T := TX4) (N := 11) hx hb hts hh0 hown hK.1 hP 5 rfl rfl 4 (by decide) hh1 (fun _ h9 => h9) rfl dX1_isOpen_8 ?_
  refine lv_iload_n hx hb dX1_isOpen_11 rfl (lv_at hl 2 rfl) ?_
  have iz12 := rd_in h
  refine va_iald hx hb hK.1 hP 6 0 rfl rfl (rd_in h) dX1_isOpen_12 (lv_topi (fun z12 ez12 => ?_))
  replace h := rd_k h ez12
  refine lv_icmp_ne (tgt := 20) hx hb dX1_isOpen_13 (by decide) (fun c13 => ?_) (fun c13 => ?_)
  · replace h := ite_f c13 h
    refine lv_iconst (v := 0) hx hb dX1_isOpen_20 (by decide) ?_
    replace h := Option.some.inj h
    subst h
    exact W.zret hx hb hr rfl (fun t ht hW => ⟨_, rfl, rfl, ht⟩) (fun q hq => by cases hq) dX1_isOpen_21
  · replace h := ite_t c13 h
    refine lv_iconst (v := 1) hx hb dX1_isOpen_16 (by decide) ?_
    refine lv_goto (tgt := 21) hx hb dX1_isOpen_17 (by decide) ?_
    replace h := Option.some.inj h
    subst h
    exact W.zret hx hb hr rfl (fun t ht hW => ⟨_, rfl, rfl, ht⟩) (fun q hq => by cases hq) dX1_isOpen_21
theorem pd_X1_part : yX1_part.cls ≠ "java/lang/invoke/MethodHandle" ∧ yX1_part.cls ≠ "java/lang/invoke/VarHandle" ∧ (parseMethodDescriptor yX1_part.desc).map (fun d => d.parameters.length) = some 4 := by decide +kernel
def f_X1_part (p_steps : Nat → Int32) (t_sizes : Nat → Int32) (x1 : Int32) (x2 : Int32) (x3 : Int32) : Option (Int32) :=
  (rd 4 t_sizes x2 fun z7 => (nm (p_steps x2.toNatClampNeg) fun z15 => (some (x1 - ((z7 - x3) * z15)))))
set_option maxHeartbeats 4000000 in
set_option maxRecDepth 100000 in
theorem c_X1_part (l : Launch) (D : va_G) (g : Nat → ClassId) (aP aT : Nat → Nat) (p_cubes : Int32) (p_steps : Nat → Int32) (p_weights : Nat → Int32) (p_actions : Nat → Int32) (p_ranks : Nat → Int64) (t_conditions : Int32) (t_cases : Int32) (t_rules : Int32) (t_defaultAction : Int32) (t_sizes : Nat → Int32) (t_strides : Nat → Int32) (t_costs : Nat → Int32) (t_weights : Nat → Int32) (t_sets : Nat → Int32) (t_actions : Nat → Int32) (t_rulesWith : Nat → Int32) (x1 : Int32) (x2 : Int32) (x3 : Int32) (r : Int32) (hf : f_X1_part p_steps t_sizes x1 x2 x3 = some r) : CR l yX1_part wsX1_part 0 0 D g [.ref (aP 0), .int x1, .int x2, .int x3, .ref (aT 0)] (wX1 g aP p_cubes p_steps p_weights p_actions p_ranks ++ (wX4 g aT t_conditions t_cases t_rules t_defaultAction t_sizes t_strides t_costs t_weights t_sets t_actions t_rulesWith)) (QRi r) := by
  refine Met.ofW (cc := cX1_part) (maxL := 5) (ret := (some .int)) (by decide) rfl ?_
  intro p e s m args below meth c s₁ B hml hv
  obtain ⟨rfl, hP, hK⟩ := hv
  have hx := B.exec
  have hb := B.bytes
  have hr := B.returns
  have hts := atoms_spec (ws := wsX1_part) B.pre
  have hown : s.vm.findClass RX1 = some m.cls := findClass_of_methodNamed B.named
  have hlocks := B.notSynchronized
  have hh0 := (show ∀ w ∈ wsX40, w ∈ wsX1_part from by decide +kernel)
  have hh1 := hts (.fieldLink RX1 34 "DecisionTableCompiler$Table" "sizes" "[I") (by decide +kernel)
  have hh2 := (show ∀ w ∈ wsX10, w ∈ wsX1_part from by decide +kernel)
  have hh3 := hts (.fieldLink RX1 9 "DecisionTableCompiler$Planner" "steps" "[I") (by decide +kernel)
  have hl := lv_entry ([.ref (aP 0), .int x1, .int x2, .int x3, .ref (aT 0)]) (n := 5) (Nat.le_of_ble_eq_true rfl)
  rw [lg_entry_eq]
  generalize (lg_sl ([.ref (aP 0), .int x1, .int x2, .int x3, .ref (aT 0)]) ++ List.replicate (5 - (lg_sl ([.ref (aP 0), .int x1, .int x2, .int x3, .ref (aT 0)])).length) Slot.unset).toArray = ls at hl ⊢
  replace hl : lv_has ls 5 [(0, .ref (aP 0)), (1, .int x1), (2, .int x2), (3, .int x3), (4, .ref (aT 0))] := hl
  have h := hf
  unfold f_X1_part at h
  refine lv_iload_n hx hb dX1_part_0 rfl (lv_at hl 1 rfl) ?_
  refine lv_aload hx hb dX1_part_1 (lv_at hl 4 rfl) ?_
  refine va_get (D := D) (ci := 4) (v := .ref (aT 1)) (C := RX4) (T := TX4) (N := 11) hx hb hts hh0 hown hK.1 hP 5 rfl rfl 4 (by decide) hh1 (fun _ h9 => h9) rfl dX1_part_3 ?_
  refine lv_iload_n hx hb dX1_part_6 rfl (lv_at hl 2 rfl) ?_
  have iz7 := rd_in h
  refine va_iald hx hb hK.1 hP 6 0 rfl rfl (rd_in h) dX1_part_7 (lv_topi (fun z7 ez7 => ?_))
  replace h := rd_k h ez7
  refine lv_iload_n hx hb dX1_part_8 rfl (lv_at hl 3 rfl) ?_
  refine lv_isub hx hb dX1_part_9 ?_
  refine lv_aload_n hx hb dX1_part_10 rfl (lv_at hl 0 rfl) ?_
  refine va_get (D := D) (ci := 1) (v := .ref (aP 1)) (C := RX1) (T := TX1) (N := 5) hx hb hts hh2 hown hK.1 hP 0 rfl rfl 1 (by decide) hh3 (fun _ h9 => h9) rfl dX1_part_11 ?_
  refine lv_iload_n hx hb dX1_part_14 rfl (lv_at hl 2 rfl) ?_
  have iz15 := iz7
  refine va_iald hx hb hK.1 hP 1 0 rfl rfl iz15 dX1_part_15 (lv_topi (fun z15 ez15 => ?_))
  replace h := nm_n h ez15
  refine lv_imul hx hb dX1_part_16 ?_
  refine lv_isub hx hb dX1_part_17 ?_
  replace h := Option.some.inj h
  subst h
  exact W.iret hx hb hr (fun t ht hW => ⟨_, rfl, rfl, ht⟩) (fun q hq => by cases hq) dX1_part_18
theorem pd_X1_gatherParts : yX1_gatherParts.cls ≠ "java/lang/invoke/MethodHandle" ∧ yX1_gatherParts.cls ≠ "java/lang/invoke/VarHandle" ∧ (parseMethodDescriptor yX1_gatherParts.desc).map (fun d => d.parameters.length) = some 3 := by decide +kernel
def f_X1_gatherParts_s21 (p_steps : Nat → Int32) (p_weights : Nat → Int32) (p_actions : Nat → Int32) (t_sizes : Nat → Int32) (x1 : Int32) (x2 : Int32) (v4_21 : Int32) (v5_21 : Int32) (v6_21 : Int32) : Option ((Int32 × Int32 × Int32) ⊕ ((Nat → Int32) × (Nat → Int32))) :=
  (rd 4 t_sizes x2 fun z28 => (if z28 ≤ v6_21 then (ix 1296 x1 (some (.inr ((upd p_weights x1.toNatClampNeg v4_21), (upd p_actions x1.toNatClampNeg v5_21))))) else (Option.bind (f_X1_part p_steps t_sizes x1 x2 v6_21) fun z38 => (rd 1296 p_weights z38 fun z51 => (nm (p_actions z38.toNatClampNeg) fun z61 => (if z61 = v5_21 then (some (.inl ((v4_21 + z51), v5_21, (v6_21 + 1)))) else (some (.inl ((v4_21 + z51), (-2 : Int32), (v6_21 + 1))))))))))
def f_X1_gatherParts (p_steps : Nat → Int32) (p_weights : Nat → Int32) (p_actions : Nat → Int32) (t_sizes : Nat → Int32) (x1 : Int32) (x2 : Int32) : Option ((Nat → Int32) × (Nat → Int32)) :=
  (Option.bind (f_X1_part p_steps t_sizes x1 x2 (0 : Int32)) fun z12 => (rd 1296 p_actions z12 fun z15 => (wl (fun q => f_X1_gatherParts_s21 p_steps p_weights p_actions t_sizes x1 x2 q.1 q.2.1 q.2.2) 5000 ((0 : Int32), z15, (0 : Int32)))))
set_option maxHeartbeats 4000000 in
set_option maxRecDepth 100000 in
theorem c_X1_gatherParts (l : Launch) (sz : Nat) (D : va_G) (g : Nat → ClassId) (aP aT : Nat → Nat) (p_cubes : Int32) (p_steps : Nat → Int32) (p_weights : Nat → Int32) (p_actions : Nat → Int32) (p_ranks : Nat → Int64) (t_conditions : Int32) (t_cases : Int32) (t_rules : Int32) (t_defaultAction : Int32) (t_sizes : Nat → Int32) (t_strides : Nat → Int32) (t_costs : Nat → Int32) (t_weights : Nat → Int32) (t_sets : Nat → Int32) (t_actions : Nat → Int32) (t_rulesWith : Nat → Int32) (x1 : Int32) (x2 : Int32) (p_weights_n : Nat → Int32) (p_actions_n : Nat → Int32) (hf : f_X1_gatherParts p_steps p_weights p_actions t_sizes x1 x2 = some (p_weights_n, p_actions_n)) : CM l yX1_gatherParts wsX1_gatherParts 1 24 sz D g [.ref (aP 0), .int x1, .int x2, .ref (aT 0)] (wX1 g aP p_cubes p_steps p_weights p_actions p_ranks ++ (wX4 g aT t_conditions t_cases t_rules t_defaultAction t_sizes t_strides t_costs t_weights t_sets t_actions t_rulesWith)) (QMv D (wX1 g aP p_cubes p_steps p_weights p_actions p_ranks ++ (wX4 g aT t_conditions t_cases t_rules t_defaultAction t_sizes t_strides t_costs t_weights t_sets t_actions t_rulesWith)) sz (wX1 g aP p_cubes p_steps p_weights_n p_actions_n p_ranks ++ (wX4 g aT t_conditions t_cases t_rules t_defaultAction t_sizes t_strides t_costs t_weights t_sets t_actions t_rulesWith))) := by
  refine Met.ofW (cc := cX1_gatherParts) (maxL := 8) (ret := none) (by decide) rfl ?_
  intro p e s m args below meth c s₁ B hml hv
  obtain ⟨rfl, hsz, hP, hK, hD0⟩ := hv
  have hx := B.exec
  have hb := B.bytes
  have hr := B.returns
  have hts := atoms_spec (ws := wsX1_gatherParts) B.pre
  have hown : s.vm.findClass RX1 = some m.cls := findClass_of_methodNamed B.named
  have hlocks := B.notSynchronized
  have hh0 := (show ∀ w ∈ wsX10, w ∈ wsX1_gatherParts from by decide +kernel)
  have hh1 := hts (.fieldLink RX1 18 "DecisionTableCompiler$Planner" "actions" "[I") (by decide +kernel)
  have hh2 := (show ∀ w ∈ wsX40, w ∈ wsX1_gatherParts from by decide +kernel)
  have hh3 := hts (.fieldLink RX1 34 "DecisionTableCompiler$Table" "sizes" "[I") (by decide +kernel)
  have hh4 := hts (.fieldLink RX1 15 "DecisionTableCompiler$Planner" "weights" "[I") (by decide +kernel)
  subst hsz
  have hD := hD0.self (sz := s.heap.size)
  have hA : ∀ q : Nat, s.heap.size ≤ q → va_A (wX1 g aP p_cubes p_steps p_weights p_actions p_ranks ++ (wX4 g aT t_conditions t_cases t_rules t_defaultAction t_sizes t_strides t_costs t_weights t_sets t_actions t_rulesWith)) s.heap.size q := fun q h => Or.inr h
  have hS : va_S (va_A (wX1 g aP p_cubes p_steps p_weights p_actions p_ranks ++ (wX4 g aT t_conditions t_cases t_rules t_defaultAction t_sizes t_strides t_costs t_weights t_sets t_actions t_rulesWith)) s.heap.size) s.heap s.heap [] := va_S.rf
  have hl := lv_entry ([.ref (aP 0), .int x1, .int x2, .ref (aT 0)]) (n := 8) (Nat.le_of_ble_eq_true rfl)
  rw [lg_entry_eq]
  generalize (lg_sl ([.ref (aP 0), .int x1, .int x2, .ref (aT 0)]) ++ List.replicate (8 - (lg_sl ([.ref (aP 0), .int x1, .int x2, .ref (aT 0)])).length) Slot.unset).toArray = ls at hl ⊢
  replace hl : lv_has ls 8 [(0, .ref (aP 0)), (1, .int x1), (2, .int x2), (3, .ref (aT 0))] := hl
  have h := hf
  unfold f_X1_gatherParts at h
  obtain ⟨H, hH⟩ : ∃ H, H = s.heap := ⟨_, rfl⟩
  obtain ⟨locs, hlc⟩ : ∃ q : List Loc, q = [] := ⟨_, rfl⟩
  have hS : va_S (va_A (wX1 g aP p_cubes p_steps p_weights p_actions p_ranks ++ (wX4 g aT t_conditions t_cases t_rules t_defaultAction t_sizes t_strides t_costs t_weights t_sets t_actions t_rulesWith)) s.heap.size) s.heap H locs := by rw [hH, hlc]; exact hS
  replace hP : va_P D vwCl (wX1 g aP p_cubes p_steps p_weights p_actions p_ranks ++ (wX4 g aT t_conditions t_cases t_rules t_defaultAction t_sizes t_strides t_costs t_weights t_sets t_actions t_rulesWith)) H := by rw [hH]; exact hP
  suffices hW : W p l e (headSpec wsX1_gatherParts ({ frames := 1, cells := 0, slots := 0, locals := 24 })).room s m ([.ref (aP 0), .int x1, .int x2, .ref (aT 0)] : List Value).toArray below meth c H locs 0 0 (MQ below (QMv D (wX1 g aP p_cubes p_steps p_weights p_actions p_ranks ++ (wX4 g aT t_conditions t_cases t_rules t_defaultAction t_sizes t_strides t_costs t_weights t_sets t_actions t_rulesWith)) s.heap.size (wX1 g aP p_cubes p_steps p_weights_n p_actions_n p_ranks ++ (wX4 g aT t_conditions t_cases t_rules t_defaultAction t_sizes t_strides t_costs t_weights t_sets t_actions t_rulesWith))) ([.ref (aP 0), .int x1, .int x2, .ref (aT 0)] : List Value).toArray s 0 0 (va_A (wX1 g aP p_cubes p_steps p_weights p_actions p_ranks ++ (wX4 g aT t_conditions t_cases t_rules t_defaultAction t_sizes t_strides t_costs t_weights t_sets t_actions t_rulesWith)) s.heap.size)) (F0 m 0 ls []) by rw [hH, hlc] at hW; exact hW
  clear hH hlc
  refine lv_iconst (v := 0) hx hb dX1_gatherParts_0 (by decide) ?_
  refine lv_istore (lv' := [(4, .int (0 : Int32)), (0, .ref (aP 0)), (1, .int x1), (2, .int x2), (3, .ref (aT 0))]) hx hb dX1_gatherParts_1 hl (by decide) rfl (fun ls hl => ?_)
  refine lv_aload_n hx hb dX1_gatherParts_3 rfl (lv_at hl 1 rfl) ?_
  refine va_get (D := D) (ci := 1) (v := .ref (aP 3)) (C := RX1) (T := TX1) (N := 5) hx hb hts hh0 hown hK.1 hP 0 rfl rfl 3 (by decide) hh1 (fun _ h9 => h9) rfl dX1_gatherParts_4 ?_
  refine lv_aload_n hx hb dX1_gatherParts_7 rfl (lv_at hl 1 rfl) ?_
  refine lv_iload_n hx hb dX1_gatherParts_8 rfl (lv_at hl 2 rfl) ?_
  refine lv_iload_n hx hb dX1_gatherParts_9 rfl (lv_at hl 3 rfl) ?_
  refine lv_iconst (v := 0) hx hb dX1_gatherParts_10 (by decide) ?_
  refine lv_aload_n hx hb dX1_gatherParts_11 rfl (lv_at hl 4 rfl) ?_
  obtain ⟨z12, e_12, h⟩ := bd_s h
  refine cr_i (va_runV (As := [.int x1, .int x2, .int (0 : Int32), .ref (aT 0)]) (rest := [.ref (aP 3)]) ⟨hx, hb, hml, hown, hts⟩ (c_X1_part l D g aP aT p_cubes p_steps p_weights p_actions p_ranks t_conditions t_cases t_rules t_defaultAction t_sizes t_strides t_costs t_weights t_sets t_actions t_rulesWith x1 x2 (0 : Int32) z12 e_12) (cwV 4 hts gX1_gatherParts_X1_part rfl rfl rfl ⟨rfl, pd_X1_part⟩ ⟨Nat.le_of_ble_eq_true rfl, Nat.le_of_ble_eq_true rfl⟩) (pr_v hK hP (q0 := 0) (ci := 1) rfl rfl rfl) rfl rfl hl.1 rfl (lv_room (Nat.le_of_ble_eq_true rfl)) dX1_gatherParts_12 ⟨Nat.zero_le _, Nat.zero_le _⟩) ?_
  have iz15 := rd_in h
  refine va_iald hx hb hK.1 hP 3 0 rfl rfl (rd_in h) dX1_gatherParts_15 (lv_topi (fun z15 ez15 => ?_))
  replace h := rd_k h ez15
  refine lv_istore (lv' := [(5, .int z15), (4, .int (0 : Int32)), (0, .ref (aP 0)), (1, .int x1), (2, .int x2), (3, .ref (aT 0))]) hx hb dX1_gatherParts_16 hl (by decide) rfl (fun ls hl => ?_)
  refine lv_iconst (v := 0) hx hb dX1_gatherParts_18 (by decide) ?_
  refine lv_istore (lv' := [(6, .int (0 : Int32)), (5, .int z15), (4, .int (0 : Int32)), (0, .ref (aP 0)), (1, .int x1), (2, .int x2), (3, .ref (aT 0))]) hx hb dX1_gatherParts_19 hl (by decide) rfl (fun ls hl => ?_)
  have lp21 : ∀ (n : Nat) (v4_21 : Int32) (v5_21 : Int32) (v6_21 : Int32), wl (fun q => f_X1_gatherParts_s21 p_steps p_weights p_actions t_sizes x1 x2 q.1 q.2.1 q.2.2) n (v4_21, v5_21, v6_21) = some (p_weights_n, p_actions_n) → ∀ ls : Array Slot, lv_has ls 8 [(6, .int v6_21), (5, .int v5_21), (4, .int v4_21), (0, .ref (aP 0)), (1, .int x1), (2, .int x2), (3, .ref (aT 0))] → W p l e (headSpec wsX1_gatherParts ({ frames := 1, cells := 0, slots := 0, locals := 24 })).room s m ([.ref (aP 0), .int x1, .int x2, .ref (aT 0)] : List Value).toArray below meth c H locs 0 0 (MQ below (QMv D (wX1 g aP p_cubes p_steps p_weights p_actions p_ranks ++ (wX4 g aT t_conditions t_cases t_rules t_defaultAction t_sizes t_strides t_costs t_weights t_sets t_actions t_rulesWith)) s.heap.size (wX1 g aP p_cubes p_steps p_weights_n p_actions_n p_ranks ++ (wX4 g aT t_conditions t_cases t_rules t_defaultAction t_sizes t_strides t_costs t_weights t_sets t_actions t_rulesWith))) ([.ref (aP 0), .int x1, .int x2, .ref (aT 0)] : List Value).toArray s 0 0 (va_A (wX1 g aP p_cubes p_steps p_weights p_actions p_ranks ++ (wX4 g aT t_conditions t_cases t_rules t_defaultAction t_sizes t_strides t_costs t_weights t_sets t_actions t_rulesWith)) s.heap.size)) (F0 m 21 ls []) := by
    intro n
    induction n with
    | zero =>
      intro v4_21 v5_21 v6_21 h
      exact wl_0 h
    | succ n ih1 =>
      intro v4_21 v5_21 v6_21 h ls hl
      obtain ⟨o1, h, k1⟩ := wl_s h
      replace h : f_X1_gatherParts_s21 p_steps p_weights p_actions t_sizes x1 x2 v4_21 v5_21 v6_21 = some o1 := h
      unfold f_X1_gatherParts_s21 at h
      refine lv_iload hx hb dX1_gatherParts_21 (lv_at hl 0 rfl) ?_
      refine lv_aload_n hx hb dX1_gatherParts_23 rfl (lv_at hl 6 rfl) ?_
      refine va_get (D := D) (ci := 4) (v := .ref (aT 1)) (C := RX4) (T := TX4) (N := 11) hx hb hts hh2 hown hK.1 hP 5 rfl rfl 4 (by decide) hh3 (fun _ h9 => h9) rfl dX1_gatherParts_24 ?_
      refine lv_iload_n hx hb dX1_gatherParts_27 rfl (lv_at hl 5 rfl) ?_
      have iz28 := rd_in h
      refine va_iald hx hb hK.1 hP 6 0 rfl rfl (rd_in h) dX1_gatherParts_28 (lv_topi (fun z28 ez28 => ?_))
      replace h := rd_k h ez28
      refine lv_icmp_ge (tgt := 77) hx hb dX1_gatherParts_29 (by decide) (fun c29 => ?_) (fun c29 => ?_)
      · replace h := ite_t c29 h
        refine lv_aload_n hx hb dX1_gatherParts_77 rfl (lv_at hl 3 rfl) ?_
        refine va_get (D := D) (ci := 1) (v := .ref (aP 2)) (C := RX1) (T := TX1) (N := 5) hx hb hts hh0 hown hK.1 hP 0 rfl rfl 2 (by decide) hh4 (fun _ h9 => h9) rfl dX1_gatherParts_78 ?_
        refine lv_iload_n hx hb dX1_gatherParts_81 rfl (lv_at hl 4 rfl) ?_
        refine lv_iload hx hb dX1_gatherParts_82 (lv_at hl 2 rfl) ?_
        have ib84 := ix_in h
        replace h := ix_k h
        refine va_iast hx hb hK.1 hP hD hS 2 0 rfl rfl ib84 dX1_gatherParts_84 (fun H locs hP hD hS => ?_)
        replace hP : va_P D vwCl (wX1 g aP p_cubes p_steps (upd p_weights x1.toNatClampNeg v4_21) p_actions p_ranks ++ (wX4 g aT t_conditions t_cases t_rules t_defaultAction t_sizes t_strides t_costs t_weights t_sets t_actions t_rulesWith)) H := hP
        replace hD : va_D (va_A (wX1 g aP p_cubes p_steps p_weights p_actions p_ranks ++ (wX4 g aT t_conditions t_cases t_rules t_defaultAction t_sizes t_strides t_costs t_weights t_sets t_actions t_rulesWith)) s.heap.size) (wX1 g aP p_cubes p_steps (upd p_weights x1.toNatClampNeg v4_21) p_actions p_ranks ++ (wX4 g aT t_conditions t_cases t_rules t_defaultAction t_sizes t_strides t_costs t_weights t_sets t_actions t_rulesWith)) := hD
        refine lv_aload_n hx hb dX1_gatherParts_85 rfl (lv_at hl 3 rfl) ?_
        refine va_get (D := D) (ci := 1) (v := .ref (aP 3)) (C := RX1) (T := TX1) (N := 5) hx hb hts hh0 hown hK.1 hP 0 rfl rfl 3 (by decide) hh1 (fun _ h9 => h9) rfl dX1_gatherParts_86 ?_
        refine lv_iload_n hx hb dX1_gatherParts_89 rfl (lv_at hl 4 rfl) ?_
        refine lv_iload hx hb dX1_gatherParts_90 (lv_at hl 1 rfl) ?_
        refine va_iast hx hb hK.1 hP hD hS 3 0 rfl rfl ib84 dX1_gatherParts_92 (fun H locs hP hD hS => ?_)
        replace hP : va_P D vwCl (wX1 g aP p_cubes p_steps (upd p_weights x1.toNatClampNeg v4_21) (upd p_actions x1.toNatClampNeg v5_21) p_ranks ++ (wX4 g aT t_conditions t_cases t_rules t_defaultAction t_sizes t_strides t_costs t_weights t_sets t_actions t_rulesWith)) H := hP
        replace hD : va_D (va_A (wX1 g aP p_cubes p_steps p_weights p_actions p_ranks ++ (wX4 g aT t_conditions t_cases t_rules t_defaultAction t_sizes t_strides t_costs t_weights t_sets t_actions t_rulesWith)) s.heap.size) (wX1 g aP p_cubes p_steps (upd p_weights x1.toNatClampNeg v4_21) (upd p_actions x1.toNatClampNeg v5_21) p_ranks ++ (wX4 g aT t_conditions t_cases t_rules t_defaultAction t_sizes t_strides t_costs t_weights t_sets t_actions t_rulesWith)) := hD
        replace h := Option.some.inj h
        subst h
        replace h := wk_r k1
        have hj0 := (Prod.mk.inj h).1
        have hg0 := (Prod.mk.inj h).2
        subst hj0
        subst hg0
        exact W.vret hx hb hr (fun t ht hW => ⟨⟨(), rfl, trivial, by rw [ht]; exact hP, hD⟩, hS.F ht⟩) hS.2.2 dX1_gatherParts_93
      · replace h := ite_f c29 h
        refine lv_aload_n hx hb dX1_gatherParts_32 rfl (lv_at hl 3 rfl) ?_
        refine lv_iload_n hx hb dX1_gatherParts_33 rfl (lv_at hl 4 rfl) ?_
        refine lv_iload_n hx hb dX1_gatherParts_34 rfl (lv_at hl 5 rfl) ?_
        refine lv_iload hx hb dX1_gatherParts_35 (lv_at hl 0 rfl) ?_
        refine lv_aload_n hx hb dX1_gatherParts_37 rfl (lv_at hl 6 rfl) ?_
        obtain ⟨z38, e_38, h⟩ := bd_s h
        refine cr_i (va_runV (As := [.int x1, .int x2, .int v6_21, .ref (aT 0)]) (rest := []) ⟨hx, hb, hml, hown, hts⟩ (c_X1_part l D g aP aT p_cubes p_steps p_weights p_actions p_ranks t_conditions t_cases t_rules t_defaultAction t_sizes t_strides t_costs t_weights t_sets t_actions t_rulesWith x1 x2 v6_21 z38 e_38) (cwV 4 hts gX1_gatherParts_X1_part rfl rfl rfl ⟨rfl, pd_X1_part⟩ ⟨Nat.le_of_ble_eq_true rfl, Nat.le_of_ble_eq_true rfl⟩) (pr_v hK hP (q0 := 0) (ci := 1) rfl rfl rfl) rfl rfl hl.1 rfl (lv_room (Nat.le_of_ble_eq_true rfl)) dX1_gatherParts_38 ⟨Nat.zero_le _, Nat.zero_le _⟩) ?_
        refine lv_istore (lv' := [(7, .int z38), (6, .int v6_21), (5, .int v5_21), (4, .int v4_21), (0, .ref (aP 0)), (1, .int x1), (2, .int x2), (3, .ref (aT 0))]) hx hb dX1_gatherParts_41 hl (by decide) rfl (fun ls hl => ?_)
        refine lv_iload hx hb dX1_gatherParts_43 (lv_at hl 3 rfl) ?_
        refine lv_aload_n hx hb dX1_gatherParts_45 rfl (lv_at hl 4 rfl) ?_
        refine va_get (D := D) (ci := 1) (v := .ref (aP 2)) (C := RX1) (T := TX1) (N := 5) hx hb hts hh0 hown hK.1 hP 0 rfl rfl 2 (by decide) hh4 (fun _ h9 => h9) rfl dX1_gatherParts_46 ?_
        refine lv_iload hx hb dX1_gatherParts_49 (lv_at hl 0 rfl) ?_
        have iz51 := rd_in h
        refine va_iald hx hb hK.1 hP 2 0 rfl rfl (rd_in h) dX1_gatherParts_51 (lv_topi (fun z51 ez51 => ?_))
        replace h := rd_k h ez51
        refine lv_iadd hx hb dX1_gatherParts_52 ?_
        refine lv_istore (lv' := [(4, .int (v4_21 + z51)), (7, .int z38), (6, .int v6_21), (5, .int v5_21), (0, .ref (aP 0)), (1, .int x1), (2, .int x2), (3, .ref (aT 0))]) hx hb dX1_gatherParts_53 hl (by decide) rfl (fun ls hl => ?_)
        refine lv_aload_n hx hb dX1_gatherParts_55 rfl (lv_at hl 4 rfl) ?_
        refine va_get (D := D) (ci := 1) (v := .ref (aP 3)) (C := RX1) (T := TX1) (N := 5) hx hb hts hh0 hown hK.1 hP 0 rfl rfl 3 (by decide) hh1 (fun _ h9 => h9) rfl dX1_gatherParts_56 ?_
        refine lv_iload hx hb dX1_gatherParts_59 (lv_at hl 1 rfl) ?_
        have iz61 := iz51
        refine va_iald hx hb hK.1 hP 3 0 rfl rfl iz61 dX1_gatherParts_61 (lv_topi (fun z61 ez61 => ?_))
        replace h := nm_n h ez61
        refine lv_iload hx hb dX1_gatherParts_62 (lv_at hl 3 rfl) ?_
        refine lv_icmp_eq (tgt := 71) hx hb dX1_gatherParts_64 (by decide) (fun c64 => ?_) (fun c64 => ?_)
        · replace h := ite_t c64 h
          refine lv_iinc (v := (v6_21 + 1)) (lv' := [(6, .int (v6_21 + 1)), (4, .int (v4_21 + z51)), (7, .int z38), (5, .int v5_21), (0, .ref (aP 0)), (1, .int x1), (2, .int x2), (3, .ref (aT 0))]) hx hb dX1_gatherParts_71 hl (k := 2) rfl rfl (by decide) rfl (fun ls hl => ?_)
          refine lv_goto (tgt := 21) hx hb dX1_gatherParts_74 (by decide) ?_
          replace h := Option.some.inj h
          subst h
          exact ih1 (v4_21 + z51) v5_21 (v6_21 + 1) (wk_l k1) ls (lv_sub hl [0, 3, 1, 4, 5, 6, 7] rfl)
        · replace h := ite_f c64 h
          refine lv_bipush (v := -2) hx hb dX1_gatherParts_67 (by decide) ?_
          refine lv_istore (lv' := [(5, .int (-2 : Int32)), (4, .int (v4_21 + z51)), (7, .int z38), (6, .int v6_21), (0, .ref (aP 0)), (1, .int x1), (2, .int x2), (3, .ref (aT 0))]) hx hb dX1_gatherParts_69 hl (by decide) rfl (fun ls hl => ?_)
          refine lv_iinc (v := (v6_21 + 1)) (lv' := [(6, .int (v6_21 + 1)), (5, .int (-2 : Int32)), (4, .int (v4_21 + z51)), (7, .int z38), (0, .ref (aP 0)), (1, .int x1), (2, .int x2), (3, .ref (aT 0))]) hx hb dX1_gatherParts_71 hl (k := 3) rfl rfl (by decide) rfl (fun ls hl => ?_)
          refine lv_goto (tgt := 21) hx hb dX1_gatherParts_74 (by decide) ?_
          replace h := Option.some.inj h
          subst h
          exact ih1 (v4_21 + z51) (-2 : Int32) (v6_21 + 1) (wk_l k1) ls (lv_sub hl [0, 1, 2, 4, 5, 6, 7] rfl)
  exact lp21 5000 (0 : Int32) z15 (0 : Int32) h ls (lv_sub hl [0, 1, 2, 3, 4, 5, 6] rfl)
theorem pd_X1_gather : yX1_gather.cls ≠ "java/lang/invoke/MethodHandle" ∧ yX1_gather.cls ≠ "java/lang/invoke/VarHandle" ∧ (parseMethodDescriptor yX1_gather.desc).map (fun d => d.parameters.length) = some 2 := by decide +kernel
def f_X1_gather_s5 (p_steps : Nat → Int32) (t_conditions : Int32) (t_rules : Int32) (t_defaultAction : Int32) (t_sizes : Nat → Int32) (t_strides : Nat → Int32) (t_weights : Nat → Int32) (t_actions : Nat → Int32) (t_rulesWith : Nat → Int32) (x1 : Int32) (v3_5 : Int32) (v4_5 : Int32) (p_weights_5 : Nat → Int32) (p_actions_5 : Nat → Int32) : Option ((Int32 × Int32 × (Nat → Int32) × (Nat → Int32)) ⊕ ((Nat → Int32) × (Nat → Int32))) :=
  (if t_conditions ≤ v4_5 then (Option.bind (f_X4_weightOf t_conditions t_sizes t_strides t_weights v3_5) fun z66 => (ix 1296 x1 (Option.bind (f_X4_actionFor t_conditions t_rules t_defaultAction t_sizes t_strides t_actions t_rulesWith v3_5) fun z77 => (some (.inr ((upd p_weights_5 x1.toNatClampNeg z66), (upd p_actions_5 x1.toNatClampNeg z77))))))) else (Option.bind (f_X1_isOpen p_steps t_sizes x1 v4_5) fun z19 => (if z19 = true then (bd2 (f_X1_gatherParts p_steps p_weights_5 p_actions_5 t_sizes x1 v4_5) fun w30_0 w30_1 => (some (.inr (w30_0, w30_1)))) else (Option.bind (f_X1_digitIn p_steps t_sizes x1 v4_5) fun z40 => (rd 4 t_strides v4_5 fun z49 => (some (.inl ((v3_5 + (z40 * z49)), (v4_5 + 1), p_weights_5, p_actions_5))))))))
def f_X1_gather (p_steps : Nat → Int32) (p_weights : Nat → Int32) (p_actions : Nat → Int32) (t_conditions : Int32) (t_rules : Int32) (t_defaultAction : Int32) (t_sizes : Nat → Int32) (t_strides : Nat → Int32) (t_weights : Nat → Int32) (t_actions : Nat → Int32) (t_rulesWith : Nat → Int32) (x1 : Int32) : Option ((Nat → Int32) × (Nat → Int32)) :=
  (wl (fun q => f_X1_gather_s5 p_steps t_conditions t_rules t_defaultAction t_sizes t_strides t_weights t_actions t_rulesWith x1 q.1 q.2.1 q.2.2.1 q.2.2.2) 5000 ((0 : Int32), (0 : Int32), p_weights, p_actions))
set_option maxHeartbeats 4000000 in
set_option maxRecDepth 100000 in
theorem c_X1_gather (l : Launch) (sz : Nat) (D : va_G) (g : Nat → ClassId) (aP aT : Nat → Nat) (p_cubes : Int32) (p_steps : Nat → Int32) (p_weights : Nat → Int32) (p_actions : Nat → Int32) (p_ranks : Nat → Int64) (t_conditions : Int32) (t_cases : Int32) (t_rules : Int32) (t_defaultAction : Int32) (t_sizes : Nat → Int32) (t_strides : Nat → Int32) (t_costs : Nat → Int32) (t_weights : Nat → Int32) (t_sets : Nat → Int32) (t_actions : Nat → Int32) (t_rulesWith : Nat → Int32) (x1 : Int32) (p_weights_n : Nat → Int32) (p_actions_n : Nat → Int32) (hf : f_X1_gather p_steps p_weights p_actions t_conditions t_rules t_defaultAction t_sizes t_strides t_weights t_actions t_rulesWith x1 = some (p_weights_n, p_actions_n)) : CM l yX1_gather wsX1_gather 5 111 sz D g [.ref (aP 0), .int x1, .ref (aT 0)] (wX1 g aP p_cubes p_steps p_weights p_actions p_ranks ++ (wX4 g aT t_conditions t_cases t_rules t_defaultAction t_sizes t_strides t_costs t_weights t_sets t_actions t_rulesWith)) (QMv D (wX1 g aP p_cubes p_steps p_weights p_actions p_ranks ++ (wX4 g aT t_conditions t_cases t_rules t_defaultAction t_sizes t_strides t_costs t_weights t_sets t_actions t_rulesWith)) sz (wX1 g aP p_cubes p_steps p_weights_n p_actions_n p_ranks ++ (wX4 g aT t_conditions t_cases t_rules t_defaultAction t_sizes t_strides t_costs t_weights t_sets t_actions t_rulesWith))) := by
  refine Met.ofW (cc := cX1_gather) (maxL := 5) (ret := none) (by decide) rfl ?_
  intro p e s m args below meth c s₁ B hml hv
  obtain ⟨rfl, hsz, hP, hK, hD0⟩ := hv
  have hx := B.exec
  have hb := B.bytes
  have hr := B.returns
  have hts := atoms_spec (ws := wsX1_gather) B.pre
  have hown : s.vm.findClass RX1 = some m.cls := findClass_of_methodNamed B.named
  have hlocks := B.notSynchronized
  have hh0 := (show ∀ w ∈ wsX40, w ∈ wsX1_gather from by decide +kernel)
  have hh1 := hts (.fieldLink RX1 29 "DecisionTableCompiler$Table" "conditions" "I") (by decide +kernel)
  have hh2 := (show ∀ w ∈ wsX10, w ∈ wsX1_gather from by decide +kernel)
  have hh3 := hts (.fieldLink RX1 15 "DecisionTableCompiler$Planner" "weights" "[I") (by decide +kernel)
  have hh4 := hts (.fieldLink RX1 18 "DecisionTableCompiler$Planner" "actions" "[I") (by decide +kernel)
  have hh5 := hts (.fieldLink RX1 87 "DecisionTableCompiler$Table" "strides" "[I") (by decide +kernel)
  subst hsz
  have hD := hD0.self (sz := s.heap.size)
  have hA : ∀ q : Nat, s.heap.size ≤ q → va_A (wX1 g aP p_cubes p_steps p_weights p_actions p_ranks ++ (wX4 g aT t_conditions t_cases t_rules t_defaultAction t_sizes t_strides t_costs t_weights t_sets t_actions t_rulesWith)) s.heap.size q := fun q h => Or.inr h
  have hS : va_S (va_A (wX1 g aP p_cubes p_steps p_weights p_actions p_ranks ++ (wX4 g aT t_conditions t_cases t_rules t_defaultAction t_sizes t_strides t_costs t_weights t_sets t_actions t_rulesWith)) s.heap.size) s.heap s.heap [] := va_S.rf
  have hl := lv_entry ([.ref (aP 0), .int x1, .ref (aT 0)]) (n := 5) (Nat.le_of_ble_eq_true rfl)
  rw [lg_entry_eq]
  generalize (lg_sl ([.ref (aP 0), .int x1, .ref (aT 0)]) ++ List.replicate (5 - (lg_sl ([.ref (aP 0), .int x1, .ref (aT 0)])).length) Slot.unset).toArray = ls at hl ⊢
  replace hl : lv_has ls 5 [(0, .ref (aP 0)), (1, .int x1), (2, .ref (aT 0))] := hl
  have h := hf
  unfold f_X1_gather at h
  obtain ⟨H, hH⟩ : ∃ H, H = s.heap := ⟨_, rfl⟩
  obtain ⟨locs, hlc⟩ : ∃ q : List Loc, q = [] := ⟨_, rfl⟩
  have hS : va_S (va_A (wX1 g aP p_cubes p_steps p_weights p_actions p_ranks ++ (wX4 g aT t_conditions t_cases t_rules t_defaultAction t_sizes t_strides t_costs t_weights t_sets t_actions t_rulesWith)) s.heap.size) s.heap H locs := by rw [hH, hlc]; exact hS
  replace hP : va_P D vwCl (wX1 g aP p_cubes p_steps p_weights p_actions p_ranks ++ (wX4 g aT t_conditions t_cases t_rules t_defaultAction t_sizes t_strides t_costs t_weights t_sets t_actions t_rulesWith)) H := by rw [hH]; exact hP
  suffices hW : W p l e (headSpec wsX1_gather ({ frames := 5, cells := 0, slots := 0, locals := 111 })).room s m ([.ref (aP 0), .int x1, .ref (aT 0)] : List Value).toArray below meth c H locs 0 0 (MQ below (QMv D (wX1 g aP p_cubes p_steps p_weights p_actions p_ranks ++ (wX4 g aT t_conditions t_cases t_rules t_defaultAction t_sizes t_strides t_costs t_weights t_sets t_actions t_rulesWith)) s.heap.size (wX1 g aP p_cubes p_steps p_weights_n p_actions_n p_ranks ++ (wX4 g aT t_conditions t_cases t_rules t_defaultAction t_sizes t_strides t_costs t_weights t_sets t_actions t_rulesWith))) ([.ref (aP 0), .int x1, .ref (aT 0)] : List Value).toArray s 0 0 (va_A (wX1 g aP p_cubes p_steps p_weights p_actions p_ranks ++ (wX4 g aT t_conditions t_cases t_rules t_defaultAction t_sizes t_strides t_costs t_weights t_sets t_actions t_rulesWith)) s.heap.size)) (F0 m 0 ls []) by rw [hH, hlc] at hW; exact hW
  clear hH hlc
  refine lv_iconst (v := 0) hx hb dX1_gather_0 (by decide) ?_
  refine lv_istore_n (lv' := [(3, .int (0 : Int32)), (0, .ref (aP 0)), (1, .int x1), (2, .ref (aT 0))]) hx hb dX1_gather_1 rfl hl (by decide) rfl (fun ls hl => ?_)
  refine lv_iconst (v := 0) hx hb dX1_gather_2 (by decide) ?_
  refine lv_istore (lv' := [(4, .int (0 : Int32)), (3, .int (0 : Int32)), (0, .ref (aP 0)), (1, .int x1), (2, .ref (aT 0))]) hx hb dX1_gather_3 hl (by decide) rfl (fun ls hl => ?_)
  have lp5 : ∀ (n : Nat) (v3_5 : Int32) (v4_5 : Int32) (p_weights_5 : Nat → Int32) (p_actions_5 : Nat → Int32) (H : Heap) (locs : List Loc), va_P D vwCl (wX1 g aP p_cubes p_steps p_weights_5 p_actions_5 p_ranks ++ (wX4 g aT t_conditions t_cases t_rules t_defaultAction t_sizes t_strides t_costs t_weights t_sets t_actions t_rulesWith)) H → va_D (va_A (wX1 g aP p_cubes p_steps p_weights p_actions p_ranks ++ (wX4 g aT t_conditions t_cases t_rules t_defaultAction t_sizes t_strides t_costs t_weights t_sets t_actions t_rulesWith)) s.heap.size) (wX1 g aP p_cubes p_steps p_weights_5 p_actions_5 p_ranks ++ (wX4 g aT t_conditions t_cases t_rules t_defaultAction t_sizes t_strides t_costs t_weights t_sets t_actions t_rulesWith)) → va_S (va_A (wX1 g aP p_cubes p_steps p_weights p_actions p_ranks ++ (wX4 g aT t_conditions t_cases t_rules t_defaultAction t_sizes t_strides t_costs t_weights t_sets t_actions t_rulesWith)) s.heap.size) s.heap H locs → wl (fun q => f_X1_gather_s5 p_steps t_conditions t_rules t_defaultAction t_sizes t_strides t_weights t_actions t_rulesWith x1 q.1 q.2.1 q.2.2.1 q.2.2.2) n (v3_5, v4_5, p_weights_5, p_actions_5) = some (p_weights_n, p_actions_n) → ∀ ls : Array Slot, lv_has ls 5 [(4, .int v4_5), (3, .int v3_5), (0, .ref (aP 0)), (1, .int x1), (2, .ref (aT 0))] → W p l e (headSpec wsX1_gather ({ frames := 5, cells := 0, slots := 0, locals := 111 })).room s m ([.ref (aP 0), .int x1, .ref (aT 0)] : List Value).toArray below meth c H locs 0 0 (MQ below (QMv D (wX1 g aP p_cubes p_steps p_weights p_actions p_ranks ++ (wX4 g aT t_conditions t_cases t_rules t_defaultAction t_sizes t_strides t_costs t_weights t_sets t_actions t_rulesWith)) s.heap.size (wX1 g aP p_cubes p_steps p_weights_n p_actions_n p_ranks ++ (wX4 g aT t_conditions t_cases t_rules t_defaultAction t_sizes t_strides t_costs t_weights t_sets t_actions t_rulesWith))) ([.ref (aP 0), .int x1, .ref (aT 0)] : List Value).toArray s 0 0 (va_A (wX1 g aP p_cubes p_steps p_weights p_actions p_ranks ++ (wX4 g aT t_conditions t_cases t_rules t_defaultAction t_sizes t_strides t_costs t_weights t_sets t_actions t_rulesWith)) s.heap.size)) (F0 m 5 ls []) := by
    intro n
    induction n with
    | zero =>
      intro v3_5 v4_5 p_weights_5 p_actions_5 H locs hP hD hS h
      exact wl_0 h
    | succ n ih1 =>
      intro v3_5 v4_5 p_weights_5 p_actions_5 H locs hP hD hS h ls hl
      obtain ⟨o1, h, k1⟩ := wl_s h
      replace h : f_X1_gather_s5 p_steps t_conditions t_rules t_defaultAction t_sizes t_strides t_weights t_actions t_rulesWith x1 v3_5 v4_5 p_weights_5 p_actions_5 = some o1 := h
      unfold f_X1_gather_s5 at h
      refine lv_iload hx hb dX1_gather_5 (lv_at hl 0 rfl) ?_
      refine lv_aload_n hx hb dX1_gather_7 rfl (lv_at hl 4 rfl) ?_
      refine va_get (D := D) (ci := 4) (v := .int t_conditions) (C := RX4) (T := TX4) (N := 11) hx hb hts hh0 hown hK.1 hP 5 rfl rfl 0 (by decide) hh1 (fun _ h9 => h9) rfl dX1_gather_8 ?_
      refine lv_icmp_ge (tgt := 59) hx hb dX1_gather_11 (by decide) (fun c11 => ?_) (fun c11 => ?_)
      · replace h := ite_t c11 h
        refine lv_aload_n hx hb dX1_gather_59 rfl (lv_at hl 2 rfl) ?_
        refine va_get (D := D) (ci := 1) (v := .ref (aP 2)) (C := RX1) (T := TX1) (N := 5) hx hb hts hh2 hown hK.1 hP 0 rfl rfl 2 (by decide) hh3 (fun _ h9 => h9) rfl dX1_gather_60 ?_
        refine lv_iload_n hx hb dX1_gather_63 rfl (lv_at hl 3 rfl) ?_
        refine lv_aload_n hx hb dX1_gather_64 rfl (lv_at hl 4 rfl) ?_
        refine lv_iload_n hx hb dX1_gather_65 rfl (lv_at hl 1 rfl) ?_
        obtain ⟨z66, e_66, h⟩ := bd_s h
        refine cr_i (va_runV (As := [.int v3_5]) (rest := [.int x1, .ref (aP 2)]) ⟨hx, hb, hml, hown, hts⟩ (c_X4_weightOf l D g aT t_conditions t_cases t_rules t_defaultAction t_sizes t_strides t_costs t_weights t_sets t_actions t_rulesWith v3_5 z66 e_66) (cwV 1 hts gX1_gather_X4_weightOf rfl rfl rfl ⟨rfl, pd_X4_weightOf⟩ ⟨Nat.le_of_ble_eq_true rfl, Nat.le_of_ble_eq_true rfl⟩) (pr_v hK (hP.sub (ws' := (wX4 g aT t_conditions t_cases t_rules t_defaultAction t_sizes t_strides t_costs t_weights t_sets t_actions t_rulesWith)) [5, 6, 7, 8, 9, 10, 11, 12] rfl) (q0 := 0) (ci := 4) rfl rfl rfl) rfl rfl hl.1 rfl (lv_room (Nat.le_of_ble_eq_true rfl)) dX1_gather_66 ⟨Nat.zero_le _, Nat.zero_le _⟩) ?_
        have ib69 := ix_in h
        replace h := ix_k h
        refine va_iast hx hb hK.1 hP hD hS 2 0 rfl rfl ib69 dX1_gather_69 (fun H locs hP hD hS => ?_)
        replace hP : va_P D vwCl (wX1 g aP p_cubes p_steps (upd p_weights_5 x1.toNatClampNeg z66) p_actions_5 p_ranks ++ (wX4 g aT t_conditions t_cases t_rules t_defaultAction t_sizes t_strides t_costs t_weights t_sets t_actions t_rulesWith)) H := hP
        replace hD : va_D (va_A (wX1 g aP p_cubes p_steps p_weights p_actions p_ranks ++ (wX4 g aT t_conditions t_cases t_rules t_defaultAction t_sizes t_strides t_costs t_weights t_sets t_actions t_rulesWith)) s.heap.size) (wX1 g aP p_cubes p_steps (upd p_weights_5 x1.toNatClampNeg z66) p_actions_5 p_ranks ++ (wX4 g aT t_conditions t_cases t_rules t_defaultAction t_sizes t_strides t_costs t_weights t_sets t_actions t_rulesWith)) := hD
        refine lv_aload_n hx hb dX1_gather_70 rfl (lv_at hl 2 rfl) ?_
        refine va_get (D := D) (ci := 1) (v := .ref (aP 3)) (C := RX1) (T := TX1) (N := 5) hx hb hts hh2 hown hK.1 hP 0 rfl rfl 3 (by decide) hh4 (fun _ h9 => h9) rfl dX1_gather_71 ?_
        refine lv_iload_n hx hb dX1_gather_74 rfl (lv_at hl 3 rfl) ?_
        refine lv_aload_n hx hb dX1_gather_75 rfl (lv_at hl 4 rfl) ?_
        refine lv_iload_n hx hb dX1_gather_76 rfl (lv_at hl 1 rfl) ?_
        obtain ⟨z77, e_77, h⟩ := bd_s h
        refine cr_i (va_runV (As := [.int v3_5]) (rest := [.int x1, .ref (aP 3)]) ⟨hx, hb, hml, hown, hts⟩ (c_X4_actionFor l D g aT t_conditions t_cases t_rules t_defaultAction t_sizes t_strides t_costs t_weights t_sets t_actions t_rulesWith v3_5 z77 e_77) (cwV 1 hts gX1_gather_X4_actionFor rfl rfl rfl ⟨rfl, pd_X4_actionFor⟩ ⟨Nat.le_of_ble_eq_true rfl, Nat.le_of_ble_eq_true rfl⟩) (pr_v hK (hP.sub (ws' := (wX4 g aT t_conditions t_cases t_rules t_defaultAction t_sizes t_strides t_costs t_weights t_sets t_actions t_rulesWith)) [5, 6, 7, 8, 9, 10, 11, 12] rfl) (q0 := 0) (ci := 4) rfl rfl rfl) rfl rfl hl.1 rfl (lv_room (Nat.le_of_ble_eq_true rfl)) dX1_gather_77 ⟨Nat.zero_le _, Nat.zero_le _⟩) ?_
        refine va_iast hx hb hK.1 hP hD hS 3 0 rfl rfl ib69 dX1_gather_80 (fun H locs hP hD hS => ?_)
        replace hP : va_P D vwCl (wX1 g aP p_cubes p_steps (upd p_weights_5 x1.toNatClampNeg z66) (upd p_actions_5 x1.toNatClampNeg z77) p_ranks ++ (wX4 g aT t_conditions t_cases t_rules t_defaultAction t_sizes t_strides t_costs t_weights t_sets t_actions t_rulesWith)) H := hP
        replace hD : va_D (va_A (wX1 g aP p_cubes p_steps p_weights p_actions p_ranks ++ (wX4 g aT t_conditions t_cases t_rules t_defaultAction t_sizes t_strides t_costs t_weights t_sets t_actions t_rulesWith)) s.heap.size) (wX1 g aP p_cubes p_steps (upd p_weights_5 x1.toNatClampNeg z66) (upd p_actions_5 x1.toNatClampNeg z77) p_ranks ++ (wX4 g aT t_conditions t_cases t_rules t_defaultAction t_sizes t_strides t_costs t_weights t_sets t_actions t_rulesWith)) := hD
        replace h := Option.some.inj h
        subst h
        replace h := wk_r k1
        have hj0 := (Prod.mk.inj h).1
        have hg0 := (Prod.mk.inj h).2
        subst hj0
        subst hg0
        exact W.vret hx hb hr (fun t ht hW => ⟨⟨(), rfl, trivial, by rw [ht]; exact hP, hD⟩, hS.F ht⟩) hS.2.2 dX1_gather_81
      · replace h := ite_f c11 h
        refine lv_aload_n hx hb dX1_gather_14 rfl (lv_at hl 2 rfl) ?_
        refine lv_iload_n hx hb dX1_gather_15 rfl (lv_at hl 3 rfl) ?_
        refine lv_iload hx hb dX1_gather_16 (lv_at hl 0 rfl) ?_
        refine lv_aload_n hx hb dX1_gather_18 rfl (lv_at hl 4 rfl) ?_
        obtain ⟨z19, e_19, h⟩ := bd_s h
        refine cr_i (va_runV (As := [.int x1, .int v4_5, .ref (aT 0)]) (rest := []) ⟨hx, hb, hml, hown, hts⟩ (c_X1_isOpen l D g aP aT p_cubes p_steps p_weights_5 p_actions_5 p_ranks t_conditions t_cases t_rules t_defaultAction t_sizes t_strides t_costs t_weights t_sets t_actions t_rulesWith x1 v4_5 z19 e_19) (cwV 3 hts gX1_gather_X1_isOpen rfl rfl rfl ⟨rfl, pd_X1_isOpen⟩ ⟨Nat.le_of_ble_eq_true rfl, Nat.le_of_ble_eq_true rfl⟩) (pr_v hK hP (q0 := 0) (ci := 1) rfl rfl rfl) rfl rfl hl.1 rfl (lv_room (Nat.le_of_ble_eq_true rfl)) dX1_gather_19 ⟨Nat.zero_le _, Nat.zero_le _⟩) ?_
        refine lb_eq (tgt := 34) hx hb dX1_gather_22 (by decide) (fun c22 => ?_) (fun c22 => ?_)
        · replace h := ite_t c22 h
          refine lv_aload_n hx hb dX1_gather_25 rfl (lv_at hl 2 rfl) ?_
          refine lv_iload_n hx hb dX1_gather_26 rfl (lv_at hl 3 rfl) ?_
          refine lv_iload hx hb dX1_gather_27 (lv_at hl 0 rfl) ?_
          refine lv_aload_n hx hb dX1_gather_29 rfl (lv_at hl 4 rfl) ?_
          obtain ⟨w30_0, w30_1, e_30, h⟩ := bd2_s h
          refine cm_v (ws := (wX1 g aP p_cubes p_steps p_weights_5 p_actions_5 p_ranks ++ (wX4 g aT t_conditions t_cases t_rules t_defaultAction t_sizes t_strides t_costs t_weights t_sets t_actions t_rulesWith))) (isC := [0, 1, 2, 3, 4, 5, 6, 7, 8, 9, 10, 11, 12]) (va_runV (As := [.int x1, .int v4_5, .ref (aT 0)]) (rest := []) ⟨hx, hb, hml, hown, hts⟩ (c_X1_gatherParts l H.size D g aP aT p_cubes p_steps p_weights_5 p_actions_5 p_ranks t_conditions t_cases t_rules t_defaultAction t_sizes t_strides t_costs t_weights t_sets t_actions t_rulesWith x1 v4_5 w30_0 w30_1 e_30) (cwV 3 hts gX1_gather_X1_gatherParts rfl rfl rfl ⟨rfl, pd_X1_gatherParts⟩ ⟨Nat.le_of_ble_eq_true rfl, Nat.le_of_ble_eq_true rfl⟩) (pw_v hK hP hD (q0 := 0) (ci := 1) rfl rfl rfl) rfl rfl hl.1 rfl (lv_room (Nat.le_of_ble_eq_true rfl)) dX1_gather_30 ⟨Nat.zero_le _, Nat.zero_le _⟩) hP hD hS hA rfl [] (wr := []) rfl (by decide) (by decide) [0, 1, 2, 3, 4, 5, 6, 7, 8, 9, 10, 11, 12] (w2 := (wX1 g aP p_cubes p_steps w30_0 w30_1 p_ranks ++ (wX4 g aT t_conditions t_cases t_rules t_defaultAction t_sizes t_strides t_costs t_weights t_sets t_actions t_rulesWith))) rfl (by decide) (fun H locs hP hD hS => ?_)
          replace h := Option.some.inj h
          subst h
          replace h := wk_r k1
          have hj0 := (Prod.mk.inj h).1
          have hg0 := (Prod.mk.inj h).2
          subst hj0
          subst hg0
          exact W.vret hx hb hr (fun t ht hW => ⟨⟨(), rfl, trivial, by rw [ht]; exact hP, hD⟩, hS.F ht⟩) hS.2.2 dX1_gather_33
        · replace h := ite_f c22 h
          refine lv_iload_n hx hb dX1_gather_34 rfl (lv_at hl 1 rfl) ?_
          refine lv_aload_n hx hb dX1_gather_35 rfl (lv_at hl 2 rfl) ?_
          refine lv_iload_n hx hb dX1_gather_36 rfl (lv_at hl 3 rfl) ?_
          refine lv_iload hx hb dX1_gather_37 (lv_at hl 0 rfl) ?_
          refine lv_aload_n hx hb dX1_gather_39 rfl (lv_at hl 4 rfl) ?_
          obtain ⟨z40, e_40, h⟩ := bd_s h
          refine cr_i (va_runV (As := [.int x1, .int v4_5, .ref (aT 0)]) (rest := [.int v3_5]) ⟨hx, hb, hml, hown, hts⟩ (c_X1_digitIn l D g aP aT p_cubes p_steps p_weights_5 p_actions_5 p_ranks t_conditions t_cases t_rules t_defaultAction t_sizes t_strides t_costs t_weights t_sets t_actions t_rulesWith x1 v4_5 z40 e_40) (cwV 3 hts gX1_gather_X1_digitIn rfl rfl rfl ⟨rfl, pd_X1_digitIn⟩ ⟨Nat.le_of_ble_eq_true rfl, Nat.le_of_ble_eq_true rfl⟩) (pr_v hK hP (q0 := 0) (ci := 1) rfl rfl rfl) rfl rfl hl.1 rfl (lv_room (Nat.le_of_ble_eq_true rfl)) dX1_gather_40 ⟨Nat.zero_le _, Nat.zero_le _⟩) ?_
          refine lv_aload_n hx hb dX1_gather_43 rfl (lv_at hl 4 rfl) ?_
          refine va_get (D := D) (ci := 4) (v := .ref (aT 2)) (C := RX4) (T := TX4) (N := 11) hx hb hts hh0 hown hK.1 hP 5 rfl rfl 5 (by decide) hh5 (fun _ h9 => h9) rfl dX1_gather_44 ?_
          refine lv_iload hx hb dX1_gather_47 (lv_at hl 0 rfl) ?_
          have iz49 := rd_in h
          refine va_iald hx hb hK.1 hP 7 0 rfl rfl (rd_in h) dX1_gather_49 (lv_topi (fun z49 ez49 => ?_))
          replace h := rd_k h ez49
          refine lv_imul hx hb dX1_gather_50 ?_
          refine lv_iadd hx hb dX1_gather_51 ?_
          refine lv_istore_n (lv' := [(3, .int (v3_5 + (z40 * z49))), (4, .int v4_5), (0, .ref (aP 0)), (1, .int x1), (2, .ref (aT 0))]) hx hb dX1_gather_52 rfl hl (by decide) rfl (fun ls hl => ?_)
          refine lv_iinc (v := (v4_5 + 1)) (lv' := [(4, .int (v4_5 + 1)), (3, .int (v3_5 + (z40 * z49))), (0, .ref (aP 0)), (1, .int x1), (2, .ref (aT 0))]) hx hb dX1_gather_53 hl (k := 1) rfl rfl (by decide) rfl (fun ls hl => ?_)
          refine lv_goto (tgt := 5) hx hb dX1_gather_56 (by decide) ?_
          replace h := Option.some.inj h
          subst h
          exact ih1 (v3_5 + (z40 * z49)) (v4_5 + 1) p_weights_5 p_actions_5 H locs hP hD hS (wk_l k1) ls (lv_sub hl [0, 1, 2, 3, 4] rfl)
  exact lp5 5000 (0 : Int32) (0 : Int32) p_weights p_actions H locs hP hD hS h ls (lv_sub hl [0, 1, 2, 3, 4] rfl)
theorem pd_X1_rankOfTest : yX1_rankOfTest.cls ≠ "java/lang/invoke/MethodHandle" ∧ yX1_rankOfTest.cls ≠ "java/lang/invoke/VarHandle" ∧ (parseMethodDescriptor yX1_rankOfTest.desc).map (fun d => d.parameters.length) = some 3 := by decide +kernel
def f_X1_rankOfTest_s25 (p_steps : Nat → Int32) (p_ranks : Nat → Int64) (t_sizes : Nat → Int32) (x1 : Int32) (x2 : Int32) (v4_25 : Int64) (v6_25 : Int32) : Option ((Int64 × Int32) ⊕ (Int64)) :=
  (nm (t_sizes x2.toNatClampNeg) fun z32 => (if z32 ≤ v6_25 then (some (.inr v4_25)) else (Option.bind (f_X1_part p_steps t_sizes x1 x2 v6_25) fun z48 => (rd 1296 p_ranks z48 fun z51 => (some (.inl ((v4_25 + z51), (v6_25 + 1))))))))
def f_X1_rankOfTest (p_steps : Nat → Int32) (p_weights : Nat → Int32) (p_ranks : Nat → Int64) (t_sizes : Nat → Int32) (t_costs : Nat → Int32) (x1 : Int32) (x2 : Int32) : Option (Int64) :=
  (rd 4 t_costs x2 fun z5 => (rd 1296 p_weights x1 fun z12 => (nm ((((z5.toInt64) * (z12.toInt64)) <<< ((10 : Int32).toInt64 &&& 63)) + (1 : Int64)) fun z20 => (wl (fun q => f_X1_rankOfTest_s25 p_steps p_ranks t_sizes x1 x2 q.1 q.2) 5000 (z20, (0 : Int32))))))
set_option maxHeartbeats 4000000 in
set_option maxRecDepth 100000 in
theorem c_X1_rankOfTest (l : Launch) (D : va_G) (g : Nat → ClassId) (aP aT : Nat → Nat) (p_cubes : Int32) (p_steps : Nat → Int32) (p_weights : Nat → Int32) (p_actions : Nat → Int32) (p_ranks : Nat → Int64) (t_conditions : Int32) (t_cases : Int32) (t_rules : Int32) (t_defaultAction : Int32) (t_sizes : Nat → Int32) (t_strides : Nat → Int32) (t_costs : Nat → Int32) (t_weights : Nat → Int32) (t_sets : Nat → Int32) (t_actions : Nat → Int32) (t_rulesWith : Nat → Int32) (x1 : Int32) (x2 : Int32) (r : Int64) (hf : f_X1_rankOfTest p_steps p_weights p_ranks t_sizes t_costs x1 x2 = some r) : CR l yX1_rankOfTest wsX1_rankOfTest 1 24 D g [.ref (aP 0), .int x1, .int x2, .ref (aT 0)] (wX1 g aP p_cubes p_steps p_weights p_actions p_ranks ++ (wX4 g aT t_conditions t_cases t_rules t_defaultAction t_sizes t_strides t_costs t_weights t_sets t_actions t_rulesWith)) (QRl r) := by
  refine Met.ofW (cc := cX1_rankOfTest) (maxL := 7) (ret := (some .long)) (by decide) rfl ?_
  intro p e s m args below meth c s₁ B hml hv
  obtain ⟨rfl, hP, hK⟩ := hv
  have hx := B.exec
  have hb := B.bytes
  have hr := B.returns
  have hts := atoms_spec (ws := wsX1_rankOfTest) B.pre
  have hown : s.vm.findClass RX1 = some m.cls := findClass_of_methodNamed B.named
  have hlocks := B.notSynchronized
  have hh0 := (show ∀ w ∈ wsX40, w ∈ wsX1_rankOfTest from by decide +kernel)
  have hh1 := hts (.fieldLink RX1 65 "DecisionTableCompiler$Table" "costs" "[I") (by decide +kernel)
  have hh2 := (show ∀ w ∈ wsX10, w ∈ wsX1_rankOfTest from by decide +kernel)
  have hh3 := hts (.fieldLink RX1 15 "DecisionTableCompiler$Planner" "weights" "[I") (by decide +kernel)
  have hh4 := hts (.fieldLink RX1 34 "DecisionTableCompiler$Table" "sizes" "[I") (by decide +kernel)
  have hh5 := hts (.fieldLink RX1 21 "DecisionTableCompiler$Planner" "ranks" "[J") (by decide +kernel)
  have hl := lv_entry ([.ref (aP 0), .int x1, .int x2, .ref (aT 0)]) (n := 7) (Nat.le_of_ble_eq_true rfl)
  rw [lg_entry_eq]
  generalize (lg_sl ([.ref (aP 0), .int x1, .int x2, .ref (aT 0)]) ++ List.replicate (7 - (lg_sl ([.ref (aP 0), .int x1, .int x2, .ref (aT 0)])).length) Slot.unset).toArray = ls at hl ⊢
  replace hl : lv_has ls 7 [(0, .ref (aP 0)), (1, .int x1), (2, .int x2), (3, .ref (aT 0))] := hl
  have h := hf
  unfold f_X1_rankOfTest at h
  refine lv_aload_n hx hb dX1_rankOfTest_0 rfl (lv_at hl 3 rfl) ?_
  refine va_get (D := D) (ci := 4) (v := .ref (aT 3)) (C := RX4) (T := TX4) (N := 11) hx hb hts hh0 hown hK.1 hP 5 rfl rfl 6 (by decide) hh1 (fun _ h9 => h9) rfl dX1_rankOfTest_1 ?_
  refine lv_iload_n hx hb dX1_rankOfTest_4 rfl (lv_at hl 2 rfl) ?_
  have iz5 := rd_in h
  refine va_iald hx hb hK.1 hP 8 0 rfl rfl (rd_in h) dX1_rankOfTest_5 (lv_topi (fun z5 ez5 => ?_))
  replace h := rd_k h ez5
  refine lv_i2l (v := z5.toInt64) hx hb dX1_rankOfTest_6 rfl ?_
  refine lv_aload_n hx hb dX1_rankOfTest_7 rfl (lv_at hl 0 rfl) ?_
  refine va_get (D := D) (ci := 1) (v := .ref (aP 2)) (C := RX1) (T := TX1) (N := 5) hx hb hts hh2 hown hK.1 hP 0 rfl rfl 2 (by decide) hh3 (fun _ h9 => h9) rfl dX1_rankOfTest_8 ?_
  refine lv_iload_n hx hb dX1_rankOfTest_11 rfl (lv_at hl 1 rfl) ?_
  have iz12 := rd_in h
  refine va_iald hx hb hK.1 hP 2 0 rfl rfl (rd_in h) dX1_rankOfTest_12 (lv_topi (fun z12 ez12 => ?_))
  replace h := rd_k h ez12
  refine lv_i2l (v := z12.toInt64) hx hb dX1_rankOfTest_13 rfl ?_
  refine lv_lmul hx hb dX1_rankOfTest_14 ?_
  refine lv_bipush (v := 10) hx hb dX1_rankOfTest_15 (by decide) ?_
  refine lv_lshl (v := (((z5.toInt64) * (z12.toInt64)) <<< ((10 : Int32).toInt64 &&& 63))) hx hb dX1_rankOfTest_17 rfl ?_
  refine lv_lconst (v := 1) hx hb dX1_rankOfTest_18 (by decide) ?_
  refine lv_ladd hx hb dX1_rankOfTest_19 ?_
  refine lv_topl (fun z20 ez20 => ?_)
  replace h := nm_n h ez20
  refine lv_lstore (lv' := [(4, .long z20), (0, .ref (aP 0)), (1, .int x1), (2, .int x2), (3, .ref (aT 0))]) hx hb dX1_rankOfTest_20 hl (by decide) rfl (fun ls hl => ?_)
  refine lv_iconst (v := 0) hx hb dX1_rankOfTest_22 (by decide) ?_
  refine lv_istore (lv' := [(6, .int (0 : Int32)), (4, .long z20), (0, .ref (aP 0)), (1, .int x1), (2, .int x2), (3, .ref (aT 0))]) hx hb dX1_rankOfTest_23 hl (by decide) rfl (fun ls hl => ?_)
  have lp25 : ∀ (n : Nat) (v4_25 : Int64) (v6_25 : Int32), wl (fun q => f_X1_rankOfTest_s25 p_steps p_ranks t_sizes x1 x2 q.1 q.2) n (v4_25, v6_25) = some r → ∀ ls : Array Slot, lv_has ls 7 [(6, .int v6_25), (4, .long v4_25), (0, .ref (aP 0)), (1, .int x1), (2, .int x2), (3, .ref (aT 0))] → W p l e (headSpec wsX1_rankOfTest ({ frames := 1, cells := 0, slots := 0, locals := 24 })).room s m ([.ref (aP 0), .int x1, .int x2, .ref (aT 0)] : List Value).toArray below meth c s.heap [] 0 0 (MQ below (QRl r) ([.ref (aP 0), .int x1, .int x2, .ref (aT 0)] : List Value).toArray s 0 0 (fun _ => False)) (F0 m 25 ls []) := by
    intro n
    induction n with
    | zero =>
      intro v4_25 v6_25 h
      exact wl_0 h
    | succ n ih1 =>
      intro v4_25 v6_25 h ls hl
      obtain ⟨o1, h, k1⟩ := wl_s h
      replace h : f_X1_rankOfTest_s25 p_steps p_ranks t_sizes x1 x2 v4_25 v6_25 = some o1 := h
      unfold f_X1_rankOfTest_s25 at h
      refine lv_iload hx hb dX1_rankOfTest_25 (lv_at hl 0 rfl) ?_
      refine lv_aload_n hx hb dX1_rankOfTest_27 rfl (lv_at hl 5 rfl) ?_
      refine va_get (D := D) (ci := 4) (v := .ref (aT 1)) (C := RX4) (T := TX4) (N := 11) hx hb hts hh0 hown hK.1 hP 5 rfl rfl 4 (by decide) hh4 (fun _ h9 => h9) rfl dX1_rankOfTest_28 ?_
      refine lv_iload_n hx hb dX1_rankOfTest_31 rfl (lv_at hl 4 rfl) ?_
      have iz32 := iz5
      refine va_iald hx hb hK.1 hP 6 0 rfl rfl iz32 dX1_rankOfTest_32 (lv_topi (fun z32 ez32 => ?_))
      replace h := nm_n h ez32
      refine lv_icmp_ge (tgt := 61) hx hb dX1_rankOfTest_33 (by decide) (fun c33 => ?_) (fun c33 => ?_)
      · replace h := ite_t c33 h
        refine lv_lload hx hb dX1_rankOfTest_61 (lv_at hl 1 rfl) ?_
        replace h := Option.some.inj h
        subst h
        replace h := wk_r k1
        subst h
        exact W.lret hx hb hr (fun t ht hW => ⟨_, rfl, rfl, ht⟩) (fun q hq => by cases hq) dX1_rankOfTest_63
      · replace h := ite_f c33 h
        refine lv_lload hx hb dX1_rankOfTest_36 (lv_at hl 1 rfl) ?_
        refine lv_aload_n hx hb dX1_rankOfTest_38 rfl (lv_at hl 2 rfl) ?_
        refine va_get (D := D) (ci := 1) (v := .ref (aP 4)) (C := RX1) (T := TX1) (N := 5) hx hb hts hh2 hown hK.1 hP 0 rfl rfl 4 (by decide) hh5 (fun _ h9 => h9) rfl dX1_rankOfTest_39 ?_
        refine lv_aload_n hx hb dX1_rankOfTest_42 rfl (lv_at hl 2 rfl) ?_
        refine lv_iload_n hx hb dX1_rankOfTest_43 rfl (lv_at hl 3 rfl) ?_
        refine lv_iload_n hx hb dX1_rankOfTest_44 rfl (lv_at hl 4 rfl) ?_
        refine lv_iload hx hb dX1_rankOfTest_45 (lv_at hl 0 rfl) ?_
        refine lv_aload_n hx hb dX1_rankOfTest_47 rfl (lv_at hl 5 rfl) ?_
        obtain ⟨z48, e_48, h⟩ := bd_s h
        refine cr_i (va_runV (As := [.int x1, .int x2, .int v6_25, .ref (aT 0)]) (rest := [.ref (aP 4), .long v4_25]) ⟨hx, hb, hml, hown, hts⟩ (c_X1_part l D g aP aT p_cubes p_steps p_weights p_actions p_ranks t_conditions t_cases t_rules t_defaultAction t_sizes t_strides t_costs t_weights t_sets t_actions t_rulesWith x1 x2 v6_25 z48 e_48) (cwV 4 hts gX1_rankOfTest_X1_part rfl rfl rfl ⟨rfl, pd_X1_part⟩ ⟨Nat.le_of_ble_eq_true rfl, Nat.le_of_ble_eq_true rfl⟩) (pr_v hK hP (q0 := 0) (ci := 1) rfl rfl rfl) rfl rfl hl.1 rfl (lv_room (Nat.le_of_ble_eq_true rfl)) dX1_rankOfTest_48 ⟨Nat.zero_le _, Nat.zero_le _⟩) ?_
        have iz51 := rd_in h
        refine va_lald hx hb hK.1 hP 4 1 rfl rfl (rd_in h) dX1_rankOfTest_51 (lv_topl (fun z51 ez51 => ?_))
        replace h := rd_k h ez51
        refine lv_ladd hx hb dX1_rankOfTest_52 ?_
        refine lv_lstore (lv' := [(4, .long (v4_25 + z51)), (6, .int v6_25), (0, .ref (aP 0)), (1, .int x1), (2, .int x2), (3, .ref (aT 0))]) hx hb dX1_rankOfTest_53 hl (by decide) rfl (fun ls hl => ?_)
        refine lv_iinc (v := (v6_25 + 1)) (lv' := [(6, .int (v6_25 + 1)), (4, .long (v4_25 + z51)), (0, .ref (aP 0)), (1, .int x1), (2, .int x2), (3, .ref (aT 0))]) hx hb dX1_rankOfTest_55 hl (k := 1) rfl rfl (by decide) rfl (fun ls hl => ?_)
        refine lv_goto (tgt := 25) hx hb dX1_rankOfTest_58 (by decide) ?_
        replace h := Option.some.inj h
        subst h
        exact ih1 (v4_25 + z51) (v6_25 + 1) (wk_l k1) ls (lv_sub hl [0, 1, 2, 3, 4, 5] rfl)
  exact lp25 5000 z20 (0 : Int32) h ls (lv_sub hl [0, 1, 2, 3, 4, 5] rfl)
theorem pd_X1_lowestRank : yX1_lowestRank.cls ≠ "java/lang/invoke/MethodHandle" ∧ yX1_lowestRank.cls ≠ "java/lang/invoke/VarHandle" ∧ (parseMethodDescriptor yX1_lowestRank.desc).map (fun d => d.parameters.length) = some 2 := by decide +kernel
def f_X1_lowestRank_s7 (p_steps : Nat → Int32) (p_weights : Nat → Int32) (p_ranks : Nat → Int64) (t_conditions : Int32) (t_sizes : Nat → Int32) (t_costs : Nat → Int32) (x1 : Int32) (v3_7 : Int64) (v5_7 : Int32) : Option ((Int64 × Int32) ⊕ (Int64)) :=
  (if t_conditions ≤ v5_7 then (some (.inr v3_7)) else (Option.bind (f_X1_isOpen p_steps t_sizes x1 v5_7) fun z21 => (if z21 = true then (Option.bind (f_X1_rankOfTest p_steps p_weights p_ranks t_sizes t_costs x1 v5_7) fun z33 => (nm (if z33 < v3_7 then z33 else v3_7) fun z39 => (some (.inl (z39, (v5_7 + 1)))))) else (some (.inl (v3_7, (v5_7 + 1)))))))
def f_X1_lowestRank (p_steps : Nat → Int32) (p_weights : Nat → Int32) (p_ranks : Nat → Int64) (t_conditions : Int32) (t_sizes : Nat → Int32) (t_costs : Nat → Int32) (x1 : Int32) : Option (Int64) :=
  (nm (4611686018427387904 : Int64) fun z3 => (wl (fun q => f_X1_lowestRank_s7 p_steps p_weights p_ranks t_conditions t_sizes t_costs x1 q.1 q.2) 5000 (z3, (0 : Int32))))
set_option maxHeartbeats 4000000 in
set_option maxRecDepth 100000 in
theorem c_X1_lowestRank (l : Launch) (D : va_G) (g : Nat → ClassId) (aP aT : Nat → Nat) (p_cubes : Int32) (p_steps : Nat → Int32) (p_weights : Nat → Int32) (p_actions : Nat → Int32) (p_ranks : Nat → Int64) (t_conditions : Int32) (t_cases : Int32) (t_rules : Int32) (t_defaultAction : Int32) (t_sizes : Nat → Int32) (t_strides : Nat → Int32) (t_costs : Nat → Int32) (t_weights : Nat → Int32) (t_sets : Nat → Int32) (t_actions : Nat → Int32) (t_rulesWith : Nat → Int32) (x1 : Int32) (r : Int64) (hf : f_X1_lowestRank p_steps p_weights p_ranks t_conditions t_sizes t_costs x1 = some r) : CR l yX1_lowestRank wsX1_lowestRank 3 67 D g [.ref (aP 0), .int x1, .ref (aT 0)] (wX1 g aP p_cubes p_steps p_weights p_actions p_ranks ++ (wX4 g aT t_conditions t_cases t_rules t_defaultAction t_sizes t_strides t_costs t_weights t_sets t_actions t_rulesWith)) (QRl r) := by
  refine Met.ofW (cc := cX1_lowestRank) (maxL := 6) (ret := (some .long)) (by decide) rfl ?_
  intro p e s m args below meth c s₁ B hml hv
  obtain ⟨rfl, hP, hK⟩ := hv
  have hx := B.exec
  have hb := B.bytes
  have hr := B.returns
  have hts := atoms_spec (ws := wsX1_lowestRank) B.pre
  have hown : s.vm.findClass RX1 = some m.cls := findClass_of_methodNamed B.named
  have hlocks := B.notSynchronized
  have hh0 := hts (.constantLong RX1 57 (4611686018427387904)) (by decide +kernel)
  have hh1 := (show ∀ w ∈ wsX40, w ∈ wsX1_lowestRank from by decide +kernel)
  have hh2 := hts (.fieldLink RX1 29 "DecisionTableCompiler$Table" "conditions" "I") (by decide +kernel)
  have hh3 := hts (.methodLink RX1 59 Lib.MathLoose.min_long.x) (by decide +kernel)
  have hh4 := hts (.static Lib.MathLoose.min_long.x) (by decide +kernel)
  have hh5 := hts (.initialized "java/lang/Math") (by decide +kernel)
  have hh6 := hts (.code Lib.MathLoose.min_long.x Lib.MathLoose.min_long.code 4 (some .long)) (by decide +kernel)
  have hl := lv_entry ([.ref (aP 0), .int x1, .ref (aT 0)]) (n := 6) (Nat.le_of_ble_eq_true rfl)
  rw [lg_entry_eq]
  generalize (lg_sl ([.ref (aP 0), .int x1, .ref (aT 0)]) ++ List.replicate (6 - (lg_sl ([.ref (aP 0), .int x1, .ref (aT 0)])).length) Slot.unset).toArray = ls at hl ⊢
  replace hl : lv_has ls 6 [(0, .ref (aP 0)), (1, .int x1), (2, .ref (aT 0))] := hl
  have h := hf
  unfold f_X1_lowestRank at h
  refine lv_ldc2 hx hb hown hh0 dX1_lowestRank_0 ?_
  refine lv_topl (fun z3 ez3 => ?_)
  replace h := nm_n h ez3
  refine lv_lstore_n (lv' := [(3, .long z3), (0, .ref (aP 0)), (1, .int x1), (2, .ref (aT 0))]) hx hb dX1_lowestRank_3 rfl hl (by decide) rfl (fun ls hl => ?_)
  refine lv_iconst (v := 0) hx hb dX1_lowestRank_4 (by decide) ?_
  refine lv_istore (lv' := [(5, .int (0 : Int32)), (3, .long z3), (0, .ref (aP 0)), (1, .int x1), (2, .ref (aT 0))]) hx hb dX1_lowestRank_5 hl (by decide) rfl (fun ls hl => ?_)
  have lp7 : ∀ (n : Nat) (v3_7 : Int64) (v5_7 : Int32), wl (fun q => f_X1_lowestRank_s7 p_steps p_weights p_ranks t_conditions t_sizes t_costs x1 q.1 q.2) n (v3_7, v5_7) = some r → ∀ ls : Array Slot, lv_has ls 6 [(5, .int v5_7), (3, .long v3_7), (0, .ref (aP 0)), (1, .int x1), (2, .ref (aT 0))] → W p l e (headSpec wsX1_lowestRank ({ frames := 3, cells := 0, slots := 0, locals := 67 })).room s m ([.ref (aP 0), .int x1, .ref (aT 0)] : List Value).toArray below meth c s.heap [] 0 0 (MQ below (QRl r) ([.ref (aP 0), .int x1, .ref (aT 0)] : List Value).toArray s 0 0 (fun _ => False)) (F0 m 7 ls []) := by
    intro n
    induction n with
    | zero =>
      intro v3_7 v5_7 h
      exact wl_0 h
    | succ n ih1 =>
      intro v3_7 v5_7 h ls hl
      obtain ⟨o1, h, k1⟩ := wl_s h
      replace h : f_X1_lowestRank_s7 p_steps p_weights p_ranks t_conditions t_sizes t_costs x1 v3_7 v5_7 = some o1 := h
      unfold f_X1_lowestRank_s7 at h
      refine lv_iload hx hb dX1_lowestRank_7 (lv_at hl 0 rfl) ?_
      refine lv_aload_n hx hb dX1_lowestRank_9 rfl (lv_at hl 4 rfl) ?_
      refine va_get (D := D) (ci := 4) (v := .int t_conditions) (C := RX4) (T := TX4) (N := 11) hx hb hts hh1 hown hK.1 hP 5 rfl rfl 0 (by decide) hh2 (fun _ h9 => h9) rfl dX1_lowestRank_10 ?_
      refine lv_icmp_ge (tgt := 46) hx hb dX1_lowestRank_13 (by decide) (fun c13 => ?_) (fun c13 => ?_)
      · replace h := ite_t c13 h
        refine lv_lload_n hx hb dX1_lowestRank_46 rfl (lv_at hl 1 rfl) ?_
        replace h := Option.some.inj h
        subst h
        replace h := wk_r k1
        subst h
        exact W.lret hx hb hr (fun t ht hW => ⟨_, rfl, rfl, ht⟩) (fun q hq => by cases hq) dX1_lowestRank_47
      · replace h := ite_f c13 h
        refine lv_aload_n hx hb dX1_lowestRank_16 rfl (lv_at hl 2 rfl) ?_
        refine lv_iload_n hx hb dX1_lowestRank_17 rfl (lv_at hl 3 rfl) ?_
        refine lv_iload hx hb dX1_lowestRank_18 (lv_at hl 0 rfl) ?_
        refine lv_aload_n hx hb dX1_lowestRank_20 rfl (lv_at hl 4 rfl) ?_
        obtain ⟨z21, e_21, h⟩ := bd_s h
        refine cr_i (va_runV (As := [.int x1, .int v5_7, .ref (aT 0)]) (rest := []) ⟨hx, hb, hml, hown, hts⟩ (c_X1_isOpen l D g aP aT p_cubes p_steps p_weights p_actions p_ranks t_conditions t_cases t_rules t_defaultAction t_sizes t_strides t_costs t_weights t_sets t_actions t_rulesWith x1 v5_7 z21 e_21) (cwV 3 hts gX1_lowestRank_X1_isOpen rfl rfl rfl ⟨rfl, pd_X1_isOpen⟩ ⟨Nat.le_of_ble_eq_true rfl, Nat.le_of_ble_eq_true rfl⟩) (pr_v hK hP (q0 := 0) (ci := 1) rfl rfl rfl) rfl rfl hl.1 rfl (lv_room (Nat.le_of_ble_eq_true rfl)) dX1_lowestRank_21 ⟨Nat.zero_le _, Nat.zero_le _⟩) ?_
        refine lb_eq (tgt := 40) hx hb dX1_lowestRank_24 (by decide) (fun c24 => ?_) (fun c24 => ?_)
        · replace h := ite_t c24 h
          refine lv_lload_n hx hb dX1_lowestRank_27 rfl (lv_at hl 1 rfl) ?_
          refine lv_aload_n hx hb dX1_lowestRank_28 rfl (lv_at hl 2 rfl) ?_
          refine lv_iload_n hx hb dX1_lowestRank_29 rfl (lv_at hl 3 rfl) ?_
          refine lv_iload hx hb dX1_lowestRank_30 (lv_at hl 0 rfl) ?_
          refine lv_aload_n hx hb dX1_lowestRank_32 rfl (lv_at hl 4 rfl) ?_
          obtain ⟨z33, e_33, h⟩ := bd_s h
          refine cr_l (va_runV (As := [.int x1, .int v5_7, .ref (aT 0)]) (rest := [.long v3_7]) ⟨hx, hb, hml, hown, hts⟩ (c_X1_rankOfTest l D g aP aT p_cubes p_steps p_weights p_actions p_ranks t_conditions t_cases t_rules t_defaultAction t_sizes t_strides t_costs t_weights t_sets t_actions t_rulesWith x1 v5_7 z33 e_33) (cwV 3 hts gX1_lowestRank_X1_rankOfTest rfl rfl rfl ⟨rfl, pd_X1_rankOfTest⟩ ⟨Nat.le_of_ble_eq_true rfl, Nat.le_of_ble_eq_true rfl⟩) (pr_v hK hP (q0 := 0) (ci := 1) rfl rfl rfl) rfl rfl hl.1 rfl (lv_room (Nat.le_of_ble_eq_true rfl)) dX1_lowestRank_33 ⟨Nat.zero_le _, Nat.zero_le _⟩) ?_
          refine va_mmin_long hx hb (hml.trans hl.1.symm) hown hh3 hh4 hh5 hh6 (Nat.le_of_ble_eq_true rfl) (Nat.le_of_ble_eq_true rfl) (Nat.zero_le _) (Nat.zero_le _) dX1_lowestRank_36 ?_
          refine lv_topl (fun z39 ez39 => ?_)
          replace h := nm_n h ez39
          refine lv_lstore_n (lv' := [(3, .long z39), (5, .int v5_7), (0, .ref (aP 0)), (1, .int x1), (2, .ref (aT 0))]) hx hb dX1_lowestRank_39 rfl hl (by decide) rfl (fun ls hl => ?_)
          refine lv_iinc (v := (v5_7 + 1)) (lv' := [(5, .int (v5_7 + 1)), (3, .long z39), (0, .ref (aP 0)), (1, .int x1), (2, .ref (aT 0))]) hx hb dX1_lowestRank_40 hl (k := 1) rfl rfl (by decide) rfl (fun ls hl => ?_)
          refine lv_goto (tgt := 7) hx hb dX1_lowestRank_43 (by decide) ?_
          replace h := Option.some.inj h
          subst h
          exact ih1 z39 (v5_7 + 1) (wk_l k1) ls (lv_sub hl [0, 1, 2, 3, 4] rfl)
        · replace h := ite_f c24 h
          refine lv_iinc (v := (v5_7 + 1)) (lv' := [(5, .int (v5_7 + 1)), (3, .long v3_7), (0, .ref (aP 0)), (1, .int x1), (2, .ref (aT 0))]) hx hb dX1_lowestRank_40 hl (k := 0) rfl rfl (by decide) rfl (fun ls hl => ?_)
          refine lv_goto (tgt := 7) hx hb dX1_lowestRank_43 (by decide) ?_
          replace h := Option.some.inj h
          subst h
          exact ih1 v3_7 (v5_7 + 1) (wk_l k1) ls (lv_sub hl [0, 1, 2, 3, 4] rfl)
  exact lp7 5000 z3 (0 : Int32) h ls (lv_sub hl [0, 1, 2, 3, 4] rfl)
theorem pd_X1_plan : yX1_plan.cls ≠ "java/lang/invoke/MethodHandle" ∧ yX1_plan.cls ≠ "java/lang/invoke/VarHandle" ∧ (parseMethodDescriptor yX1_plan.desc).map (fun d => d.parameters.length) = some 1 := by decide +kernel
def f_X1_plan_s51 (t_conditions : Int32) (t_rules : Int32) (t_defaultAction : Int32) (t_sizes : Nat → Int32) (t_strides : Nat → Int32) (t_costs : Nat → Int32) (t_weights : Nat → Int32) (t_actions : Nat → Int32) (t_rulesWith : Nat → Int32) (p_cubes_12 : Int32) (p_steps_12 : Nat → Int32) (v2_51 : Int32) (p_weights_51 : Nat → Int32) (p_actions_51 : Nat → Int32) (p_ranks_51 : Nat → Int64) : Option ((Int32 × (Nat → Int32) × (Nat → Int32) × (Nat → Int64)) ⊕ ((Int32 × Int32 × (Nat → Int32)) ⊕ (Int32 × (Nat → Int32) × (Nat → Int32) × (Nat → Int32) × (Nat → Int64)))) :=
  (if p_cubes_12 ≤ v2_51 then (some (.inr (.inr (p_cubes_12, p_steps_12, p_weights_51, p_actions_51, p_ranks_51)))) else (bd2 (f_X1_gather p_steps_12 p_weights_51 p_actions_51 t_conditions t_rules t_defaultAction t_sizes t_strides t_weights t_actions t_rulesWith v2_51) fun w62_0 w62_1 => (rd 1296 w62_1 v2_51 fun z75 => (if z75 = (-2 : Int32) then (Option.bind (f_X1_lowestRank p_steps_12 w62_0 p_ranks_51 t_conditions t_sizes t_costs v2_51) fun z84 => (some (.inl ((v2_51 + 1), w62_0, w62_1, (vp_updL p_ranks_51 v2_51.toNatClampNeg z84))))) else (some (.inl ((v2_51 + 1), w62_0, w62_1, (vp_updL p_ranks_51 v2_51.toNatClampNeg (1 : Int64)))))))))
def f_X1_plan_s12 (p_weights : Nat → Int32) (p_actions : Nat → Int32) (p_ranks : Nat → Int64) (t_conditions : Int32) (t_rules : Int32) (t_defaultAction : Int32) (t_sizes : Nat → Int32) (t_strides : Nat → Int32) (t_costs : Nat → Int32) (t_weights : Nat → Int32) (t_actions : Nat → Int32) (t_rulesWith : Nat → Int32) (v2_12 : Int32) (p_cubes_12 : Int32) (p_steps_12 : Nat → Int32) : Option ((Int32 × Int32 × (Nat → Int32)) ⊕ (Int32 × (Nat → Int32) × (Nat → Int32) × (Nat → Int32) × (Nat → Int64))) :=
  (if v2_12 < (0 : Int32) then (wl (fun q => f_X1_plan_s51 t_conditions t_rules t_defaultAction t_sizes t_strides t_costs t_weights t_actions t_rulesWith p_cubes_12 p_steps_12 q.1 q.2.1 q.2.2.1 q.2.2.2) 5000 ((0 : Int32), p_weights, p_actions, p_ranks)) else (ix 4 v2_12 (nm (t_sizes v2_12.toNatClampNeg) fun z36 => (some (.inl ((v2_12 + (-1)), (p_cubes_12 * (z36 + (1 : Int32))), (upd p_steps_12 v2_12.toNatClampNeg p_cubes_12)))))))
def f_X1_plan (p_cubes : Int32) (p_steps : Nat → Int32) (p_weights : Nat → Int32) (p_actions : Nat → Int32) (p_ranks : Nat → Int64) (t_conditions : Int32) (t_rules : Int32) (t_defaultAction : Int32) (t_sizes : Nat → Int32) (t_strides : Nat → Int32) (t_costs : Nat → Int32) (t_weights : Nat → Int32) (t_actions : Nat → Int32) (t_rulesWith : Nat → Int32) : Option (Int32 × (Nat → Int32) × (Nat → Int32) × (Nat → Int32) × (Nat → Int64)) :=
  (nm (t_conditions - (1 : Int32)) fun z11 => (wl (fun q => f_X1_plan_s12 p_weights p_actions p_ranks t_conditions t_rules t_defaultAction t_sizes t_strides t_costs t_weights t_actions t_rulesWith q.1 q.2.1 q.2.2) 5000 (z11, (1 : Int32), p_steps)))
set_option maxHeartbeats 4000000 in
set_option maxRecDepth 100000 in
theorem c_X1_plan (l : Launch) (sz : Nat) (D : va_G) (g : Nat → ClassId) (aP aT : Nat → Nat) (p_cubes : Int32) (p_steps : Nat → Int32) (p_weights : Nat → Int32) (p_actions : Nat → Int32) (p_ranks : Nat → Int64) (t_conditions : Int32) (t_cases : Int32) (t_rules : Int32) (t_defaultAction : Int32) (t_sizes : Nat → Int32) (t_strides : Nat → Int32) (t_costs : Nat → Int32) (t_weights : Nat → Int32) (t_sets : Nat → Int32) (t_actions : Nat → Int32) (t_rulesWith : Nat → Int32)  (p_cubes_n : Int32) (p_steps_n : Nat → Int32) (p_weights_n : Nat → Int32) (p_actions_n : Nat → Int32) (p_ranks_n : Nat → Int64) (hf : f_X1_plan p_cubes p_steps p_weights p_actions p_ranks t_conditions t_rules t_defaultAction t_sizes t_strides t_costs t_weights t_actions t_rulesWith = some (p_cubes_n, p_steps_n, p_weights_n, p_actions_n, p_ranks_n)) : CM l yX1_plan wsX1_plan 6 135 sz D g [.ref (aP 0), .ref (aT 0)] (wX1 g aP p_cubes p_steps p_weights p_actions p_ranks ++ (wX4 g aT t_conditions t_cases t_rules t_defaultAction t_sizes t_strides t_costs t_weights t_sets t_actions t_rulesWith)) (QMv D (wX1 g aP p_cubes p_steps p_weights p_actions p_ranks ++ (wX4 g aT t_conditions t_cases t_rules t_defaultAction t_sizes t_strides t_costs t_weights t_sets t_actions t_rulesWith)) sz (wX1 g aP p_cubes_n p_steps_n p_weights_n p_actions_n p_ranks_n ++ (wX4 g aT t_conditions t_cases t_rules t_defaultAction t_sizes t_strides t_costs t_weights t_sets t_actions t_rulesWith))) := by
  refine Met.ofW (cc := cX1_plan) (maxL := 3) (ret := none) (by decide) rfl ?_
  intro p e s m args below meth c s₁ B hml hv
  obtain ⟨rfl, hsz, hP, hK, hD0⟩ := hv
  have hx := B.exec
  have hb := B.bytes
  have hr := B.returns
  have hts := atoms_spec (ws := wsX1_plan) B.pre
  have hown : s.vm.findClass RX1 = some m.cls := findClass_of_methodNamed B.named
  have hlocks := B.notSynchronized
  have hh0 := (show ∀ w ∈ wsX10, w ∈ wsX1_plan from by decide +kernel)
  have hh1 := hts (.fieldLink RX1 25 "DecisionTableCompiler$Planner" "cubes" "I") (by decide +kernel)
  have hh2 := (show ∀ w ∈ wsX40, w ∈ wsX1_plan from by decide +kernel)
  have hh3 := hts (.fieldLink RX1 29 "DecisionTableCompiler$Table" "conditions" "I") (by decide +kernel)
  have hh4 := hts (.fieldLink RX1 21 "DecisionTableCompiler$Planner" "ranks" "[J") (by decide +kernel)
  have hh5 := hts (.fieldLink RX1 18 "DecisionTableCompiler$Planner" "actions" "[I") (by decide +kernel)
  have hh6 := hts (.fieldLink RX1 9 "DecisionTableCompiler$Planner" "steps" "[I") (by decide +kernel)
  have hh7 := hts (.fieldLink RX1 34 "DecisionTableCompiler$Table" "sizes" "[I") (by decide +kernel)
  subst hsz
  have hD := hD0.self (sz := s.heap.size)
  have hA : ∀ q : Nat, s.heap.size ≤ q → va_A (wX1 g aP p_cubes p_steps p_weights p_actions p_ranks ++ (wX4 g aT t_conditions t_cases t_rules t_defaultAction t_sizes t_strides t_costs t_weights t_sets t_actions t_rulesWith)) s.heap.size q := fun q h => Or.inr h
  have hS : va_S (va_A (wX1 g aP p_cubes p_steps p_weights p_actions p_ranks ++ (wX4 g aT t_conditions t_cases t_rules t_defaultAction t_sizes t_strides t_costs t_weights t_sets t_actions t_rulesWith)) s.heap.size) s.heap s.heap [] := va_S.rf
  have hl := lv_entry ([.ref (aP 0), .ref (aT 0)]) (n := 3) (Nat.le_of_ble_eq_true rfl)
  rw [lg_entry_eq]
  generalize (lg_sl ([.ref (aP 0), .ref (aT 0)]) ++ List.replicate (3 - (lg_sl ([.ref (aP 0), .ref (aT 0)])).length) Slot.unset).toArray = ls at hl ⊢
  replace hl : lv_has ls 3 [(0, .ref (aP 0)), (1, .ref (aT 0))] := hl
  have h := hf
  unfold f_X1_plan at h
  obtain ⟨H, hH⟩ : ∃ H, H = s.heap := ⟨_, rfl⟩
  obtain ⟨locs, hlc⟩ : ∃ q : List Loc, q = [] := ⟨_, rfl⟩
  have hS : va_S (va_A (wX1 g aP p_cubes p_steps p_weights p_actions p_ranks ++ (wX4 g aT t_conditions t_cases t_rules t_defaultAction t_sizes t_strides t_costs t_weights t_sets t_actions t_rulesWith)) s.heap.size) s.heap H locs := by rw [hH, hlc]; exact hS
  replace hP : va_P D vwCl (wX1 g aP p_cubes p_steps p_weights p_actions p_ranks ++ (wX4 g aT t_conditions t_cases t_rules t_defaultAction t_sizes t_strides t_costs t_weights t_sets t_actions t_rulesWith)) H := by rw [hH]; exact hP
  suffices hW : W p l e (headSpec wsX1_plan ({ frames := 6, cells := 0, slots := 0, locals := 135 })).room s m ([.ref (aP 0), .ref (aT 0)] : List Value).toArray below meth c H locs 0 0 (MQ below (QMv D (wX1 g aP p_cubes p_steps p_weights p_actions p_ranks ++ (wX4 g aT t_conditions t_cases t_rules t_defaultAction t_sizes t_strides t_costs t_weights t_sets t_actions t_rulesWith)) s.heap.size (wX1 g aP p_cubes_n p_steps_n p_weights_n p_actions_n p_ranks_n ++ (wX4 g aT t_conditions t_cases t_rules t_defaultAction t_sizes t_strides t_costs t_weights t_sets t_actions t_rulesWith))) ([.ref (aP 0), .ref (aT 0)] : List Value).toArray s 0 0 (va_A (wX1 g aP p_cubes p_steps p_weights p_actions p_ranks ++ (wX4 g aT t_conditions t_cases t_rules t_defaultAction t_sizes t_strides t_costs t_weights t_sets t_actions t_rulesWith)) s.heap.size)) (F0 m 0 ls []) by rw [hH, hlc] at hW; exact hW
  clear hH hlc
  refine lv_aload_n hx hb dX1_plan_0 rfl (lv_at hl 0 rfl) ?_
  refine lv_iconst (v := 1) hx hb dX1_plan_1 (by decide) ?_
  refine va_put (D := D) (ci := 1) (v := .int (1 : Int32)) (ty := .int) (C := RX1) (T := TX1) (N := 5) hx hb hts hh0 tyX1 tyX1_ok nmX1 hown hK.1 hP hD hS 0 rfl rfl 0 (by decide) hh1 (fun _ h9 => h9) rfl (by decide +kernel) rfl rfl (Nat.le_of_ble_eq_true rfl) dX1_plan_2 (fun H locs hP hD hS => ?_)
  replace hP : va_P D vwCl (wX1 g aP (1 : Int32) p_steps p_weights p_actions p_ranks ++ (wX4 g aT t_conditions t_cases t_rules t_defaultAction t_sizes t_strides t_costs t_weights t_sets t_actions t_rulesWith)) H := hP
  replace hD : va_D (va_A (wX1 g aP p_cubes p_steps p_weights p_actions p_ranks ++ (wX4 g aT t_conditions t_cases t_rules t_defaultAction t_sizes t_strides t_costs t_weights t_sets t_actions t_rulesWith)) s.heap.size) (wX1 g aP (1 : Int32) p_steps p_weights p_actions p_ranks ++ (wX4 g aT t_conditions t_cases t_rules t_defaultAction t_sizes t_strides t_costs t_weights t_sets t_actions t_rulesWith)) := hD
  refine lv_aload_n hx hb dX1_plan_5 rfl (lv_at hl 1 rfl) ?_
  refine va_get (D := D) (ci := 4) (v := .int t_conditions) (C := RX4) (T := TX4) (N := 11) hx hb hts hh2 hown hK.1 hP 5 rfl rfl 0 (by decide) hh3 (fun _ h9 => h9) rfl dX1_plan_6 ?_
  refine lv_iconst (v := 1) hx hb dX1_plan_9 (by decide) ?_
  refine lv_isub hx hb dX1_plan_10 ?_
  refine lv_topi (fun z11 ez11 => ?_)
  replace h := nm_n h ez11
  refine lv_istore_n (lv' := [(2, .int z11), (0, .ref (aP 0)), (1, .ref (aT 0))]) hx hb dX1_plan_11 rfl hl (by decide) rfl (fun ls hl => ?_)
  have lp12 : ∀ (n : Nat) (v2_12 : Int32) (p_cubes_12 : Int32) (p_steps_12 : Nat → Int32) (H : Heap) (locs : List Loc), va_P D vwCl (wX1 g aP p_cubes_12 p_steps_12 p_weights p_actions p_ranks ++ (wX4 g aT t_conditions t_cases t_rules t_defaultAction t_sizes t_strides t_costs t_weights t_sets t_actions t_rulesWith)) H → va_D (va_A (wX1 g aP p_cubes p_steps p_weights p_actions p_ranks ++ (wX4 g aT t_conditions t_cases t_rules t_defaultAction t_sizes t_strides t_costs t_weights t_sets t_actions t_rulesWith)) s.heap.size) (wX1 g aP p_cubes_12 p_steps_12 p_weights p_actions p_ranks ++ (wX4 g aT t_conditions t_cases t_rules t_defaultAction t_sizes t_strides t_costs t_weights t_sets t_actions t_rulesWith)) → va_S (va_A (wX1 g aP p_cubes p_steps p_weights p_actions p_ranks ++ (wX4 g aT t_conditions t_cases t_rules t_defaultAction t_sizes t_strides t_costs t_weights t_sets t_actions t_rulesWith)) s.heap.size) s.heap H locs → wl (fun q => f_X1_plan_s12 p_weights p_actions p_ranks t_conditions t_rules t_defaultAction t_sizes t_strides t_costs t_weights t_actions t_rulesWith q.1 q.2.1 q.2.2) n (v2_12, p_cubes_12, p_steps_12) = some (p_cubes_n, p_steps_n, p_weights_n, p_actions_n, p_ranks_n) → ∀ ls : Array Slot, lv_has ls 3 [(2, .int v2_12), (0, .ref (aP 0)), (1, .ref (aT 0))] → W p l e (headSpec wsX1_plan ({ frames := 6, cells := 0, slots := 0, locals := 135 })).room s m ([.ref (aP 0), .ref (aT 0)] : List Value).toArray below meth c H locs 0 0 (MQ below (QMv D (wX1 g aP p_cubes p_steps p_weights p_actions p_ranks ++ (wX4 g aT t_conditions t_cases t_rules t_defaultAction t_sizes t_strides t_costs t_weights t_sets t_actions t_rulesWith)) s.heap.size (wX1 g aP p_cubes_n p_steps_n p_weights_n p_actions_n p_ranks_n ++ (wX4 g aT t_conditions t_cases t_rules t_defaultAction t_sizes t_strides t_costs t_weights t_sets t_actions t_rulesWith))) ([.ref (aP 0), .ref (aT 0)] : List Value).toArray s 0 0 (va_A (wX1 g aP p_cubes p_steps p_weights p_actions p_ranks ++ (wX4 g aT t_conditions t_cases t_rules t_defaultAction t_sizes t_strides t_costs t_weights t_sets t_actions t_rulesWith)) s.heap.size)) (F0 m 12 ls []) := by
    intro n
    induction n with
    | zero =>
      intro v2_12 p_cubes_12 p_steps_12 H locs hP hD hS h
      exact wl_0 h
    | succ n ih1 =>
      intro v2_12 p_cubes_12 p_steps_12 H locs hP hD hS h ls hl
      obtain ⟨o1, h, k1⟩ := wl_s h
      replace h : f_X1_plan_s12 p_weights p_actions p_ranks t_conditions t_rules t_defaultAction t_sizes t_strides t_costs t_weights t_actions t_rulesWith v2_12 p_cubes_12 p_steps_12 = some o1 := h
      unfold f_X1_plan_s12 at h
      refine lv_iload_n hx hb dX1_plan_12 rfl (lv_at hl 0 rfl) ?_
      refine lv_if_lt (tgt := 49) hx hb dX1_plan_13 (by decide) (fun c13 => ?_) (fun c13 => ?_)
      · replace h := ite_t c13 h
        refine lv_iconst (v := 0) hx hb dX1_plan_49 (by decide) ?_
        refine lv_istore_n (lv' := [(2, .int (0 : Int32)), (0, .ref (aP 0)), (1, .ref (aT 0))]) hx hb dX1_plan_50 rfl hl (by decide) rfl (fun ls hl => ?_)
        have lp51 : ∀ (n : Nat) (v2_51 : Int32) (p_weights_51 : Nat → Int32) (p_actions_51 : Nat → Int32) (p_ranks_51 : Nat → Int64) (H : Heap) (locs : List Loc), va_P D vwCl (wX1 g aP p_cubes_12 p_steps_12 p_weights_51 p_actions_51 p_ranks_51 ++ (wX4 g aT t_conditions t_cases t_rules t_defaultAction t_sizes t_strides t_costs t_weights t_sets t_actions t_rulesWith)) H → va_D (va_A (wX1 g aP p_cubes p_steps p_weights p_actions p_ranks ++ (wX4 g aT t_conditions t_cases t_rules t_defaultAction t_sizes t_strides t_costs t_weights t_sets t_actions t_rulesWith)) s.heap.size) (wX1 g aP p_cubes_12 p_steps_12 p_weights_51 p_actions_51 p_ranks_51 ++ (wX4 g aT t_conditions t_cases t_rules t_defaultAction t_sizes t_strides t_costs t_weights t_sets t_actions t_rulesWith)) → va_S (va_A (wX1 g aP p_cubes p_steps p_weights p_actions p_ranks ++ (wX4 g aT t_conditions t_cases t_rules t_defaultAction t_sizes t_strides t_costs t_weights t_sets t_actions t_rulesWith)) s.heap.size) s.heap H locs → wl (fun q => f_X1_plan_s51 t_conditions t_rules t_defaultAction t_sizes t_strides t_costs t_weights t_actions t_rulesWith p_cubes_12 p_steps_12 q.1 q.2.1 q.2.2.1 q.2.2.2) n (v2_51, p_weights_51, p_actions_51, p_ranks_51) = some o1 → ∀ ls : Array Slot, lv_has ls 3 [(2, .int v2_51), (0, .ref (aP 0)), (1, .ref (aT 0))] → W p l e (headSpec wsX1_plan ({ frames := 6, cells := 0, slots := 0, locals := 135 })).room s m ([.ref (aP 0), .ref (aT 0)] : List Value).toArray below meth c H locs 0 0 (MQ below (QMv D (wX1 g aP p_cubes p_steps p_weights p_actions p_ranks ++ (wX4 g aT t_conditions t_cases t_rules t_defaultAction t_sizes t_strides t_costs t_weights t_sets t_actions t_rulesWith)) s.heap.size (wX1 g aP p_cubes_n p_steps_n p_weights_n p_actions_n p_ranks_n ++ (wX4 g aT t_conditions t_cases t_rules t_defaultAction t_sizes t_strides t_costs t_weights t_sets t_actions t_rulesWith))) ([.ref (aP 0), .ref (aT 0)] : List Value).toArray s 0 0 (va_A (wX1 g aP p_cubes p_steps p_weights p_actions p_ranks ++ (wX4 g aT t_conditions t_cases t_rules t_defaultAction t_sizes t_strides t_costs t_weights t_sets t_actions t_rulesWith)) s.heap.size)) (F0 m 51 ls []) := by
          intro n
          induction n with
          | zero =>
            intro v2_51 p_weights_51 p_actions_51 p_ranks_51 H locs hP hD hS h
            exact wl_0 h
          | succ n ih2 =>
            intro v2_51 p_weights_51 p_actions_51 p_ranks_51 H locs hP hD hS h ls hl
            obtain ⟨o2, h, k2⟩ := wl_s h
            replace h : f_X1_plan_s51 t_conditions t_rules t_defaultAction t_sizes t_strides t_costs t_weights t_actions t_rulesWith p_cubes_12 p_steps_12 v2_51 p_weights_51 p_actions_51 p_ranks_51 = some o2 := h
            unfold f_X1_plan_s51 at h
            refine lv_iload_n hx hb dX1_plan_51 rfl (lv_at hl 0 rfl) ?_
            refine lv_aload_n hx hb dX1_plan_52 rfl (lv_at hl 1 rfl) ?_
            refine va_get (D := D) (ci := 1) (v := .int p_cubes_12) (C := RX1) (T := TX1) (N := 5) hx hb hts hh0 hown hK.1 hP 0 rfl rfl 0 (by decide) hh1 (fun _ h9 => h9) rfl dX1_plan_53 ?_
            refine lv_icmp_ge (tgt := 98) hx hb dX1_plan_56 (by decide) (fun c56 => ?_) (fun c56 => ?_)
            · replace h := ite_t c56 h
              replace h := Option.some.inj h
              subst h
              replace h := wk_r k2
              subst h
              replace h := wk_r k1
              have hj0 := (Prod.mk.inj h).1
              have hg0 := (Prod.mk.inj h).2
              have hj1 := (Prod.mk.inj hg0).1
              have hg1 := (Prod.mk.inj hg0).2
              have hj2 := (Prod.mk.inj hg1).1
              have hg2 := (Prod.mk.inj hg1).2
              have hj3 := (Prod.mk.inj hg2).1
              have hg3 := (Prod.mk.inj hg2).2
              clear hg0
              clear hg1
              clear hg2
              subst hj0
              subst hj1
              subst hj2
              subst hj3
              subst hg3
              exact W.vret hx hb hr (fun t ht hW => ⟨⟨(), rfl, trivial, by rw [ht]; exact hP, hD⟩, hS.F ht⟩) hS.2.2 dX1_plan_98
            · replace h := ite_f c56 h
              refine lv_aload_n hx hb dX1_plan_59 rfl (lv_at hl 1 rfl) ?_
              refine lv_iload_n hx hb dX1_plan_60 rfl (lv_at hl 0 rfl) ?_
              refine lv_aload_n hx hb dX1_plan_61 rfl (lv_at hl 2 rfl) ?_
              obtain ⟨w62_0, w62_1, e_62, h⟩ := bd2_s h
              refine cm_v (ws := (wX1 g aP p_cubes_12 p_steps_12 p_weights_51 p_actions_51 p_ranks_51 ++ (wX4 g aT t_conditions t_cases t_rules t_defaultAction t_sizes t_strides t_costs t_weights t_sets t_actions t_rulesWith))) (isC := [0, 1, 2, 3, 4, 5, 6, 7, 8, 9, 10, 11, 12]) (va_runV (As := [.int v2_51, .ref (aT 0)]) (rest := []) ⟨hx, hb, hml, hown, hts⟩ (c_X1_gather l H.size D g aP aT p_cubes_12 p_steps_12 p_weights_51 p_actions_51 p_ranks_51 t_conditions t_cases t_rules t_defaultAction t_sizes t_strides t_costs t_weights t_sets t_actions t_rulesWith v2_51 w62_0 w62_1 e_62) (cwV 2 hts gX1_plan_X1_gather rfl rfl rfl ⟨rfl, pd_X1_gather⟩ ⟨Nat.le_of_ble_eq_true rfl, Nat.le_of_ble_eq_true rfl⟩) (pw_v hK hP hD (q0 := 0) (ci := 1) rfl rfl rfl) rfl rfl hl.1 rfl (lv_room (Nat.le_of_ble_eq_true rfl)) dX1_plan_62 ⟨Nat.zero_le _, Nat.zero_le _⟩) hP hD hS hA rfl [] (wr := []) rfl (by decide) (by decide) [0, 1, 2, 3, 4, 5, 6, 7, 8, 9, 10, 11, 12] (w2 := (wX1 g aP p_cubes_12 p_steps_12 w62_0 w62_1 p_ranks_51 ++ (wX4 g aT t_conditions t_cases t_rules t_defaultAction t_sizes t_strides t_costs t_weights t_sets t_actions t_rulesWith))) rfl (by decide) (fun H locs hP hD hS => ?_)
              refine lv_aload_n hx hb dX1_plan_65 rfl (lv_at hl 1 rfl) ?_
              refine va_get (D := D) (ci := 1) (v := .ref (aP 4)) (C := RX1) (T := TX1) (N := 5) hx hb hts hh0 hown hK.1 hP 0 rfl rfl 4 (by decide) hh4 (fun _ h9 => h9) rfl dX1_plan_66 ?_
              refine lv_iload_n hx hb dX1_plan_69 rfl (lv_at hl 0 rfl) ?_
              refine lv_aload_n hx hb dX1_plan_70 rfl (lv_at hl 1 rfl) ?_
              refine va_get (D := D) (ci := 1) (v := .ref (aP 3)) (C := RX1) (T := TX1) (N := 5) hx hb hts hh0 hown hK.1 hP 0 rfl rfl 3 (by decide) hh5 (fun _ h9 => h9) rfl dX1_plan_71 ?_
              refine lv_iload_n hx hb dX1_plan_74 rfl (lv_at hl 0 rfl) ?_
              have iz75 := rd_in h
              refine va_iald hx hb hK.1 hP 3 0 rfl rfl (rd_in h) dX1_plan_75 (lv_topi (fun z75 ez75 => ?_))
              replace h := rd_k h ez75
              refine lv_bipush (v := -2) hx hb dX1_plan_76 (by decide) ?_
              refine lv_icmp_ne (tgt := 90) hx hb dX1_plan_78 (by decide) (fun c78 => ?_) (fun c78 => ?_)
              · replace h := ite_f c78 h
                refine lv_lconst (v := 1) hx hb dX1_plan_90 (by decide) ?_
                refine va_last hx hb hK.1 hP hD hS 4 1 rfl rfl iz75 dX1_plan_91 (fun H locs hP hD hS => ?_)
                replace hP : va_P D vwCl (wX1 g aP p_cubes_12 p_steps_12 w62_0 w62_1 (vp_updL p_ranks_51 v2_51.toNatClampNeg (1 : Int64)) ++ (wX4 g aT t_conditions t_cases t_rules t_defaultAction t_sizes t_strides t_costs t_weights t_sets t_actions t_rulesWith)) H := hP
                replace hD : va_D (va_A (wX1 g aP p_cubes p_steps p_weights p_actions p_ranks ++ (wX4 g aT t_conditions t_cases t_rules t_defaultAction t_sizes t_strides t_costs t_weights t_sets t_actions t_rulesWith)) s.heap.size) (wX1 g aP p_cubes_12 p_steps_12 w62_0 w62_1 (vp_updL p_ranks_51 v2_51.toNatClampNeg (1 : Int64)) ++ (wX4 g aT t_conditions t_cases t_rules t_defaultAction t_sizes t_strides t_costs t_weights t_sets t_actions t_rulesWith)) := hD
                refine lv_iinc (v := (v2_51 + 1)) (lv' := [(2, .int (v2_51 + 1)), (0, .ref (aP 0)), (1, .ref (aT 0))]) hx hb dX1_plan_92 hl (k := 0) rfl rfl (by decide) rfl (fun ls hl => ?_)
                refine lv_goto (tgt := 51) hx hb dX1_plan_95 (by decide) ?_
                replace h := Option.some.inj h
                subst h
                exact ih2 (v2_51 + 1) w62_0 w62_1 (vp_updL p_ranks_51 v2_51.toNatClampNeg (1 : Int64)) H locs hP hD hS (wk_l k2) ls (lv_sub hl [0, 1, 2] rfl)
              · replace h := ite_t c78 h
                refine lv_aload_n hx hb dX1_plan_81 rfl (lv_at hl 1 rfl) ?_
                refine lv_iload_n hx hb dX1_plan_82 rfl (lv_at hl 0 rfl) ?_
                refine lv_aload_n hx hb dX1_plan_83 rfl (lv_at hl 2 rfl) ?_
                obtain ⟨z84, e_84, h⟩ := bd_s h
                refine cr_l (va_runV (As := [.int v2_51, .ref (aT 0)]) (rest := [.int v2_51, .ref (aP 4)]) ⟨hx, hb, hml, hown, hts⟩ (c_X1_lowestRank l D g aP aT p_cubes_12 p_steps_12 w62_0 w62_1 p_ranks_51 t_conditions t_cases t_rules t_defaultAction t_sizes t_strides t_costs t_weights t_sets t_actions t_rulesWith v2_51 z84 e_84) (cwV 2 hts gX1_plan_X1_lowestRank rfl rfl rfl ⟨rfl, pd_X1_lowestRank⟩ ⟨Nat.le_of_ble_eq_true rfl, Nat.le_of_ble_eq_true rfl⟩) (pr_v hK hP (q0 := 0) (ci := 1) rfl rfl rfl) rfl rfl hl.1 rfl (lv_room (Nat.le_of_ble_eq_true rfl)) dX1_plan_84 ⟨Nat.zero_le _, Nat.zero_le _⟩) ?_
                refine lv_goto (tgt := 91) hx hb dX1_plan_87 (by decide) ?_
                refine va_last hx hb hK.1 hP hD hS 4 1 rfl rfl iz75 dX1_plan_91 (fun H locs hP hD hS => ?_)
                replace hP : va_P D vwCl (wX1 g aP p_cubes_12 p_steps_12 w62_0 w62_1 (vp_updL p_ranks_51 v2_51.toNatClampNeg z84) ++ (wX4 g aT t_conditions t_cases t_rules t_defaultAction t_sizes t_strides t_costs t_weights t_sets t_actions t_rulesWith)) H := hP
                replace hD : va_D (va_A (wX1 g aP p_cubes p_steps p_weights p_actions p_ranks ++ (wX4 g aT t_conditions t_cases t_rules t_defaultAction t_sizes t_strides t_costs t_weights t_sets t_actions t_rulesWith)) s.heap.size) (wX1 g aP p_cubes_12 p_steps_12 w62_0 w62_1 (vp_updL p_ranks_51 v2_51.toNatClampNeg z84) ++ (wX4 g aT t_conditions t_cases t_rules t_defaultAction t_sizes t_strides t_costs t_weights t_sets t_actions t_rulesWith)) := hD
                refine lv_iinc (v := (v2_51 + 1)) (lv' := [(2, .int (v2_51 + 1)), (0, .ref (aP 0)), (1, .ref (aT 0))]) hx hb dX1_plan_92 hl (k := 0) rfl rfl (by decide) rfl (fun ls hl => ?_)
                refine lv_goto (tgt := 51) hx hb dX1_plan_95 (by decide) ?_
                replace h := Option.some.inj h
                subst h
                exact ih2 (v2_51 + 1) w62_0 w62_1 (vp_updL p_ranks_51 v2_51.toNatClampNeg z84) H locs hP hD hS (wk_l k2) ls (lv_sub hl [0, 1, 2] rfl)
        exact lp51 5000 (0 : Int32) p_weights p_actions p_ranks H locs hP hD hS h ls (lv_sub hl [0, 1, 2] rfl)
      · replace h := ite_f c13 h
        refine lv_aload_n hx hb dX1_plan_16 rfl (lv_at hl 1 rfl) ?_
        refine va_get (D := D) (ci := 1) (v := .ref (aP 1)) (C := RX1) (T := TX1) (N := 5) hx hb hts hh0 hown hK.1 hP 0 rfl rfl 1 (by decide) hh6 (fun _ h9 => h9) rfl dX1_plan_17 ?_
        refine lv_iload_n hx hb dX1_plan_20 rfl (lv_at hl 0 rfl) ?_
        refine lv_aload_n hx hb dX1_plan_21 rfl (lv_at hl 1 rfl) ?_
        refine va_get (D := D) (ci := 1) (v := .int p_cubes_12) (C := RX1) (T := TX1) (N := 5) hx hb hts hh0 hown hK.1 hP 0 rfl rfl 0 (by decide) hh1 (fun _ h9 => h9) rfl dX1_plan_22 ?_
        have ib25 := ix_in h
        replace h := ix_k h
        refine va_iast hx hb hK.1 hP hD hS 1 0 rfl rfl ib25 dX1_plan_25 (fun H locs hP hD hS => ?_)
        replace hP : va_P D vwCl (wX1 g aP p_cubes_12 (upd p_steps_12 v2_12.toNatClampNeg p_cubes_12) p_weights p_actions p_ranks ++ (wX4 g aT t_conditions t_cases t_rules t_defaultAction t_sizes t_strides t_costs t_weights t_sets t_actions t_rulesWith)) H := hP
        replace hD : va_D (va_A (wX1 g aP p_cubes p_steps p_weights p_actions p_ranks ++ (wX4 g aT t_conditions t_cases t_rules t_defaultAction t_sizes t_strides t_costs t_weights t_sets t_actions t_rulesWith)) s.heap.size) (wX1 g aP p_cubes_12 (upd p_steps_12 v2_12.toNatClampNeg p_cubes_12) p_weights p_actions p_ranks ++ (wX4 g aT t_conditions t_cases t_rules t_defaultAction t_sizes t_strides t_costs t_weights t_sets t_actions t_rulesWith)) := hD
        refine lv_aload_n hx hb dX1_plan_26 rfl (lv_at hl 1 rfl) ?_
        refine lv_dup hx hb dX1_plan_27 rfl ?_
        refine va_get (D := D) (ci := 1) (v := .int p_cubes_12) (C := RX1) (T := TX1) (N := 5) hx hb hts hh0 hown hK.1 hP 0 rfl rfl 0 (by decide) hh1 (fun _ h9 => h9) rfl dX1_plan_28 ?_
        refine lv_aload_n hx hb dX1_plan_31 rfl (lv_at hl 2 rfl) ?_
        refine va_get (D := D) (ci := 4) (v := .ref (aT 1)) (C := RX4) (T := TX4) (N := 11) hx hb hts hh2 hown hK.1 hP 5 rfl rfl 4 (by decide) hh7 (fun _ h9 => h9) rfl dX1_plan_32 ?_
        refine lv_iload_n hx hb dX1_plan_35 rfl (lv_at hl 0 rfl) ?_
        have iz36 := ib25
        refine va_iald hx hb hK.1 hP 6 0 rfl rfl iz36 dX1_plan_36 (lv_topi (fun z36 ez36 => ?_))
        replace h := nm_n h ez36
        refine lv_iconst (v := 1) hx hb dX1_plan_37 (by decide) ?_
        refine lv_iadd hx hb dX1_plan_38 ?_
        refine lv_imul hx hb dX1_plan_39 ?_
        refine va_put (D := D) (ci := 1) (v := .int (p_cubes_12 * (z36 + (1 : Int32)))) (ty := .int) (C := RX1) (T := TX1) (N := 5) hx hb hts hh0 tyX1 tyX1_ok nmX1 hown hK.1 hP hD hS 0 rfl rfl 0 (by decide) hh1 (fun _ h9 => h9) rfl (by decide +kernel) rfl rfl (Nat.le_of_ble_eq_true rfl) dX1_plan_40 (fun H locs hP hD hS => ?_)
        replace hP : va_P D vwCl (wX1 g aP (p_cubes_12 * (z36 + (1 : Int32))) (upd p_steps_12 v2_12.toNatClampNeg p_cubes_12) p_weights p_actions p_ranks ++ (wX4 g aT t_conditions t_cases t_rules t_defaultAction t_sizes t_strides t_costs t_weights t_sets t_actions t_rulesWith)) H := hP
        replace hD : va_D (va_A (wX1 g aP p_cubes p_steps p_weights p_actions p_ranks ++ (wX4 g aT t_conditions t_cases t_rules t_defaultAction t_sizes t_strides t_costs t_weights t_sets t_actions t_rulesWith)) s.heap.size) (wX1 g aP (p_cubes_12 * (z36 + (1 : Int32))) (upd p_steps_12 v2_12.toNatClampNeg p_cubes_12) p_weights p_actions p_ranks ++ (wX4 g aT t_conditions t_cases t_rules t_defaultAction t_sizes t_strides t_costs t_weights t_sets t_actions t_rulesWith)) := hD
        refine lv_iinc (v := (v2_12 + (-1))) (lv' := [(2, .int (v2_12 + (-1))), (0, .ref (aP 0)), (1, .ref (aT 0))]) hx hb dX1_plan_43 hl (k := 0) rfl rfl (by decide) rfl (fun ls hl => ?_)
        refine lv_goto (tgt := 12) hx hb dX1_plan_46 (by decide) ?_
        replace h := Option.some.inj h
        subst h
        exact ih1 (v2_12 + (-1)) (p_cubes_12 * (z36 + (1 : Int32))) (upd p_steps_12 v2_12.toNatClampNeg p_cubes_12) H locs hP hD hS (wk_l k1) ls (lv_sub hl [0, 1, 2] rfl)
  exact lp12 5000 z11 (1 : Int32) p_steps H locs hP hD hS h ls (lv_sub hl [0, 1, 2] rfl)
theorem pd_X1_whole : yX1_whole.cls ≠ "java/lang/invoke/MethodHandle" ∧ yX1_whole.cls ≠ "java/lang/invoke/VarHandle" ∧ (parseMethodDescriptor yX1_whole.desc).map (fun d => d.parameters.length) = some 0 := by decide +kernel
def f_X1_whole (p_cubes : Int32) : Option (Int32) :=
  (some (p_cubes - (1 : Int32)))
set_option maxHeartbeats 4000000 in
set_option maxRecDepth 100000 in
theorem c_X1_whole (l : Launch) (D : va_G) (g : Nat → ClassId) (aP : Nat → Nat) (p_cubes : Int32) (p_steps : Nat → Int32) (p_weights : Nat → Int32) (p_actions : Nat → Int32) (p_ranks : Nat → Int64)  (r : Int32) (hf : f_X1_whole p_cubes = some r) : CR l yX1_whole wsX1_whole 0 0 D g [.ref (aP 0)] (wX1 g aP p_cubes p_steps p_weights p_actions p_ranks) (QRi r) := by
  refine Met.ofW (cc := cX1_whole) (maxL := 1) (ret := (some .int)) (by decide) rfl ?_
  intro p e s m args below meth c s₁ B hml hv
  obtain ⟨rfl, hP, hK⟩ := hv
  have hx := B.exec
  have hb := B.bytes
  have hr := B.returns
  have hts := atoms_spec (ws := wsX1_whole) B.pre
  have hown : s.vm.findClass RX1 = some m.cls := findClass_of_methodNamed B.named
  have hlocks := B.notSynchronized
  have hh0 := (show ∀ w ∈ wsX10, w ∈ wsX1_whole from by decide +kernel)
  have hh1 := hts (.fieldLink RX1 25 "DecisionTableCompiler$Planner" "cubes" "I") (by decide +kernel)
  have hl := lv_entry ([.ref (aP 0)]) (n := 1) (Nat.le_of_ble_eq_true rfl)
  rw [lg_entry_eq]
  generalize (lg_sl ([.ref (aP 0)]) ++ List.replicate (1 - (lg_sl ([.ref (aP 0)])).length) Slot.unset).toArray = ls at hl ⊢
  replace hl : lv_has ls 1 [(0, .ref (aP 0))] := hl
  have h := hf
  unfold f_X1_whole at h
  refine lv_aload_n hx hb dX1_whole_0 rfl (lv_at hl 0 rfl) ?_
  refine va_get (D := D) (ci := 1) (v := .int p_cubes) (C := RX1) (T := TX1) (N := 5) hx hb hts hh0 hown hK.1 hP 0 rfl rfl 0 (by decide) hh1 (fun _ h9 => h9) rfl dX1_whole_1 ?_
  refine lv_iconst (v := 1) hx hb dX1_whole_4 (by decide) ?_
  refine lv_isub hx hb dX1_whole_5 ?_
  replace h := Option.some.inj h
  subst h
  exact W.iret hx hb hr (fun t ht hW => ⟨_, rfl, rfl, ht⟩) (fun q hq => by cases hq) dX1_whole_6
theorem pd_X1_lowestCost : yX1_lowestCost.cls ≠ "java/lang/invoke/MethodHandle" ∧ yX1_lowestCost.cls ≠ "java/lang/invoke/VarHandle" ∧ (parseMethodDescriptor yX1_lowestCost.desc).map (fun d => d.parameters.length) = some 0 := by decide +kernel
def f_X1_lowestCost (p_cubes : Int32) (p_ranks : Nat → Int64) : Option (Int64) :=
  (Option.bind (f_X1_whole p_cubes) fun z5 => (rd 1296 p_ranks z5 fun z8 => (some (z8 >>> ((10 : Int32).toInt64 &&& 63)))))
set_option maxHeartbeats 4000000 in
set_option maxRecDepth 100000 in
theorem c_X1_lowestCost (l : Launch) (D : va_G) (g : Nat → ClassId) (aP : Nat → Nat) (p_cubes : Int32) (p_steps : Nat → Int32) (p_weights : Nat → Int32) (p_actions : Nat → Int32) (p_ranks : Nat → Int64)  (r : Int64) (hf : f_X1_lowestCost p_cubes p_ranks = some r) : CR l yX1_lowestCost wsX1_lowestCost 1 20 D g [.ref (aP 0)] (wX1 g aP p_cubes p_steps p_weights p_actions p_ranks) (QRl r) := by
  refine Met.ofW (cc := cX1_lowestCost) (maxL := 1) (ret := (some .long)) (by decide) rfl ?_
  intro p e s m args below meth c s₁ B hml hv
  obtain ⟨rfl, hP, hK⟩ := hv
  have hx := B.exec
  have hb := B.bytes
  have hr := B.returns
  have hts := atoms_spec (ws := wsX1_lowestCost) B.pre
  have hown : s.vm.findClass RX1 = some m.cls := findClass_of_methodNamed B.named
  have hlocks := B.notSynchronized
  have hh0 := (show ∀ w ∈ wsX10, w ∈ wsX1_lowestCost from by decide +kernel)
  have hh1 := hts (.fieldLink RX1 21 "DecisionTableCompiler$Planner" "ranks" "[J") (by decide +kernel)
  have hl := lv_entry ([.ref (aP 0)]) (n := 1) (Nat.le_of_ble_eq_true rfl)
  rw [lg_entry_eq]
  generalize (lg_sl ([.ref (aP 0)]) ++ List.replicate (1 - (lg_sl ([.ref (aP 0)])).length) Slot.unset).toArray = ls at hl ⊢
  replace hl : lv_has ls 1 [(0, .ref (aP 0))] := hl
  have h := hf
  unfold f_X1_lowestCost at h
  refine lv_aload_n hx hb dX1_lowestCost_0 rfl (lv_at hl 0 rfl) ?_
  refine va_get (D := D) (ci := 1) (v := .ref (aP 4)) (C := RX1) (T := TX1) (N := 5) hx hb hts hh0 hown hK.1 hP 0 rfl rfl 4 (by decide) hh1 (fun _ h9 => h9) rfl dX1_lowestCost_1 ?_
  refine lv_aload_n hx hb dX1_lowestCost_4 rfl (lv_at hl 0 rfl) ?_
  obtain ⟨z5, e_5, h⟩ := bd_s h
  refine cr_i (va_runV (As := []) (rest := [.ref (aP 4)]) ⟨hx, hb, hml, hown, hts⟩ (c_X1_whole l D g aP p_cubes p_steps p_weights p_actions p_ranks z5 e_5) (cwV 0 hts gX1_lowestCost_X1_whole rfl rfl rfl ⟨rfl, pd_X1_whole⟩ ⟨Nat.le_of_ble_eq_true rfl, Nat.le_of_ble_eq_true rfl⟩) (pr_v hK hP (q0 := 0) (ci := 1) rfl rfl rfl) rfl rfl hl.1 rfl (lv_room (Nat.le_of_ble_eq_true rfl)) dX1_lowestCost_5 ⟨Nat.zero_le _, Nat.zero_le _⟩) ?_
  have iz8 := rd_in h
  refine va_lald hx hb hK.1 hP 4 1 rfl rfl (rd_in h) dX1_lowestCost_8 (lv_topl (fun z8 ez8 => ?_))
  replace h := rd_k h ez8
  refine lv_bipush (v := 10) hx hb dX1_lowestCost_9 (by decide) ?_
  refine lv_lshr (v := (z8 >>> ((10 : Int32).toInt64 &&& 63))) hx hb dX1_lowestCost_11 rfl ?_
  replace h := Option.some.inj h
  subst h
  exact W.lret hx hb hr (fun t ht hW => ⟨_, rfl, rfl, ht⟩) (fun q hq => by cases hq) dX1_lowestCost_12
theorem pd_X1_costWithTest : yX1_costWithTest.cls ≠ "java/lang/invoke/MethodHandle" ∧ yX1_costWithTest.cls ≠ "java/lang/invoke/VarHandle" ∧ (parseMethodDescriptor yX1_costWithTest.desc).map (fun d => d.parameters.length) = some 2 := by decide +kernel
def f_X1_costWithTest (p_cubes : Int32) (p_steps : Nat → Int32) (p_weights : Nat → Int32) (p_ranks : Nat → Int64) (t_sizes : Nat → Int32) (t_costs : Nat → Int32) (x1 : Int32) : Option (Int64) :=
  (Option.bind (f_X1_whole p_cubes) fun z2 => (Option.bind (f_X1_rankOfTest p_steps p_weights p_ranks t_sizes t_costs z2 x1) fun z7 => (some (z7 >>> ((10 : Int32).toInt64 &&& 63)))))
set_option maxHeartbeats 4000000 in
set_option maxRecDepth 100000 in
theorem c_X1_costWithTest (l : Launch) (D : va_G) (g : Nat → ClassId) (aP aT : Nat → Nat) (p_cubes : Int32) (p_steps : Nat → Int32) (p_weights : Nat → Int32) (p_actions : Nat → Int32) (p_ranks : Nat → Int64) (t_conditions : Int32) (t_cases : Int32) (t_rules : Int32) (t_defaultAction : Int32) (t_sizes : Nat → Int32) (t_strides : Nat → Int32) (t_costs : Nat → Int32) (t_weights : Nat → Int32) (t_sets : Nat → Int32) (t_actions : Nat → Int32) (t_rulesWith : Nat → Int32) (x1 : Int32) (r : Int64) (hf : f_X1_costWithTest p_cubes p_steps p_weights p_ranks t_sizes t_costs x1 = some r) : CR l yX1_costWithTest wsX1_costWithTest 2 50 D g [.ref (aP 0), .int x1, .ref (aT 0)] (wX1 g aP p_cubes p_steps p_weights p_actions p_ranks ++ (wX4 g aT t_conditions t_cases t_rules t_defaultAction t_sizes t_strides t_costs t_weights t_sets t_actions t_rulesWith)) (QRl r) := by
  refine Met.ofW (cc := cX1_costWithTest) (maxL := 3) (ret := (some .long)) (by decide) rfl ?_
  intro p e s m args below meth c s₁ B hml hv
  obtain ⟨rfl, hP, hK⟩ := hv
  have hx := B.exec
  have hb := B.bytes
  have hr := B.returns
  have hts := atoms_spec (ws := wsX1_costWithTest) B.pre
  have hown : s.vm.findClass RX1 = some m.cls := findClass_of_methodNamed B.named
  have hlocks := B.notSynchronized
  have hl := lv_entry ([.ref (aP 0), .int x1, .ref (aT 0)]) (n := 3) (Nat.le_of_ble_eq_true rfl)
  rw [lg_entry_eq]
  generalize (lg_sl ([.ref (aP 0), .int x1, .ref (aT 0)]) ++ List.replicate (3 - (lg_sl ([.ref (aP 0), .int x1, .ref (aT 0)])).length) Slot.unset).toArray = ls at hl ⊢
  replace hl : lv_has ls 3 [(0, .ref (aP 0)), (1, .int x1), (2, .ref (aT 0))] := hl
  have h := hf
  unfold f_X1_costWithTest at h
  refine lv_aload_n hx hb dX1_costWithTest_0 rfl (lv_at hl 0 rfl) ?_
  refine lv_aload_n hx hb dX1_costWithTest_1 rfl (lv_at hl 0 rfl) ?_
  obtain ⟨z2, e_2, h⟩ := bd_s h
  refine cr_i (va_runV (As := []) (rest := [.ref (aP 0)]) ⟨hx, hb, hml, hown, hts⟩ (c_X1_whole l D g aP p_cubes p_steps p_weights p_actions p_ranks z2 e_2) (cwV 0 hts gX1_costWithTest_X1_whole rfl rfl rfl ⟨rfl, pd_X1_whole⟩ ⟨Nat.le_of_ble_eq_true rfl, Nat.le_of_ble_eq_true rfl⟩) (pr_v hK (hP.sub (ws' := (wX1 g aP p_cubes p_steps p_weights p_actions p_ranks)) [0, 1, 2, 3, 4] rfl) (q0 := 0) (ci := 1) rfl rfl rfl) rfl rfl hl.1 rfl (lv_room (Nat.le_of_ble_eq_true rfl)) dX1_costWithTest_2 ⟨Nat.zero_le _, Nat.zero_le _⟩) ?_
  refine lv_iload_n hx hb dX1_costWithTest_5 rfl (lv_at hl 1 rfl) ?_
  refine lv_aload_n hx hb dX1_costWithTest_6 rfl (lv_at hl 2 rfl) ?_
  obtain ⟨z7, e_7, h⟩ := bd_s h
  refine cr_l (va_runV (As := [.int z2, .int x1, .ref (aT 0)]) (rest := []) ⟨hx, hb, hml, hown, hts⟩ (c_X1_rankOfTest l D g aP aT p_cubes p_steps p_weights p_actions p_ranks t_conditions t_cases t_rules t_defaultAction t_sizes t_strides t_costs t_weights t_sets t_actions t_rulesWith z2 x1 z7 e_7) (cwV 3 hts gX1_costWithTest_X1_rankOfTest rfl rfl rfl ⟨rfl, pd_X1_rankOfTest⟩ ⟨Nat.le_of_ble_eq_true rfl, Nat.le_of_ble_eq_true rfl⟩) (pr_v hK hP (q0 := 0) (ci := 1) rfl rfl rfl) rfl rfl hl.1 rfl (lv_room (Nat.le_of_ble_eq_true rfl)) dX1_costWithTest_7 ⟨Nat.zero_le _, Nat.zero_le _⟩) ?_
  refine lv_bipush (v := 10) hx hb dX1_costWithTest_10 (by decide) ?_
  refine lv_lshr (v := (z7 >>> ((10 : Int32).toInt64 &&& 63))) hx hb dX1_costWithTest_12 rfl ?_
  replace h := Option.some.inj h
  subst h
  exact W.lret hx hb hr (fun t ht hW => ⟨_, rfl, rfl, ht⟩) (fun q hq => by cases hq) dX1_costWithTest_13
theorem pd_X1_bestTest : yX1_bestTest.cls ≠ "java/lang/invoke/MethodHandle" ∧ yX1_bestTest.cls ≠ "java/lang/invoke/VarHandle" ∧ (parseMethodDescriptor yX1_bestTest.desc).map (fun d => d.parameters.length) = some 2 := by decide +kernel
def f_X1_bestTest_s15 (p_steps : Nat → Int32) (p_weights : Nat → Int32) (p_ranks : Nat → Int64) (t_conditions : Int32) (t_sizes : Nat → Int32) (t_costs : Nat → Int32) (x1 : Int32) (v3_15 : Int32) : Option ((Int32) ⊕ (Int32)) :=
  (if t_conditions ≤ v3_15 then (some (.inr (-1 : Int32))) else (Option.bind (f_X1_isOpen p_steps t_sizes x1 v3_15) fun z27 => (if z27 = true then (Option.bind (f_X1_rankOfTest p_steps p_weights p_ranks t_sizes t_costs x1 v3_15) fun z37 => (nm (p_ranks x1.toNatClampNeg) fun z45 => (if (lg_cmp z37 z45) = (0 : Int32) then (some (.inr v3_15)) else (some (.inl (v3_15 + 1)))))) else (some (.inl (v3_15 + 1))))))
def f_X1_bestTest (p_steps : Nat → Int32) (p_weights : Nat → Int32) (p_actions : Nat → Int32) (p_ranks : Nat → Int64) (t_conditions : Int32) (t_sizes : Nat → Int32) (t_costs : Nat → Int32) (x1 : Int32) : Option (Int32) :=
  (rd 1296 p_actions x1 fun z5 => (if z5 = (-2 : Int32) then (wl (fun q => f_X1_bestTest_s15 p_steps p_weights p_ranks t_conditions t_sizes t_costs x1 q) 5000 (0 : Int32)) else (some (-1 : Int32))))
set_option maxHeartbeats 4000000 in
set_option maxRecDepth 100000 in
theorem c_X1_bestTest (l : Launch) (D : va_G) (g : Nat → ClassId) (aP aT : Nat → Nat) (p_cubes : Int32) (p_steps : Nat → Int32) (p_weights : Nat → Int32) (p_actions : Nat → Int32) (p_ranks : Nat → Int64) (t_conditions : Int32) (t_cases : Int32) (t_rules : Int32) (t_defaultAction : Int32) (t_sizes : Nat → Int32) (t_strides : Nat → Int32) (t_costs : Nat → Int32) (t_weights : Nat → Int32) (t_sets : Nat → Int32) (t_actions : Nat → Int32) (t_rulesWith : Nat → Int32) (x1 : Int32) (r : Int32) (hf : f_X1_bestTest p_steps p_weights p_actions p_ranks t_conditions t_sizes t_costs x1 = some r) : CR l yX1_bestTest wsX1_bestTest 3 67 D g [.ref (aP 0), .int x1, .ref (aT 0)] (wX1 g aP p_cubes p_steps p_weights p_actions p_ranks ++ (wX4 g aT t_conditions t_cases t_rules t_defaultAction t_sizes t_strides t_costs t_weights t_sets t_actions t_rulesWith)) (QRi r) := by
  refine Met.ofW (cc := cX1_bestTest) (maxL := 4) (ret := (some .int)) (by decide) rfl ?_
  intro p e s m args below meth c s₁ B hml hv
  obtain ⟨rfl, hP, hK⟩ := hv
  have hx := B.exec
  have hb := B.bytes
  have hr := B.returns
  have hts := atoms_spec (ws := wsX1_bestTest) B.pre
  have hown : s.vm.findClass RX1 = some m.cls := findClass_of_methodNamed B.named
  have hlocks := B.notSynchronized
  have hh0 := (show ∀ w ∈ wsX10, w ∈ wsX1_bestTest from by decide +kernel)
  have hh1 := hts (.fieldLink RX1 18 "DecisionTableCompiler$Planner" "actions" "[I") (by decide +kernel)
  have hh2 := (show ∀ w ∈ wsX40, w ∈ wsX1_bestTest from by decide +kernel)
  have hh3 := hts (.fieldLink RX1 29 "DecisionTableCompiler$Table" "conditions" "I") (by decide +kernel)
  have hh4 := hts (.fieldLink RX1 21 "DecisionTableCompiler$Planner" "ranks" "[J") (by decide +kernel)
  have hl := lv_entry ([.ref (aP 0), .int x1, .ref (aT 0)]) (n := 4) (Nat.le_of_ble_eq_true rfl)
  rw [lg_entry_eq]
  generalize (lg_sl ([.ref (aP 0), .int x1, .ref (aT 0)]) ++ List.replicate (4 - (lg_sl ([.ref (aP 0), .int x1, .ref (aT 0)])).length) Slot.unset).toArray = ls at hl ⊢
  replace hl : lv_has ls 4 [(0, .ref (aP 0)), (1, .int x1), (2, .ref (aT 0))] := hl
  have h := hf
  unfold f_X1_bestTest at h
  refine lv_aload_n hx hb dX1_bestTest_0 rfl (lv_at hl 0 rfl) ?_
  refine va_get (D := D) (ci := 1) (v := .ref (aP 3)) (C := RX1) (T := TX1) (N := 5) hx hb hts hh0 hown hK.1 hP 0 rfl rfl 3 (by decide) hh1 (fun _ h9 => h9) rfl dX1_bestTest_1 ?_
  refine lv_iload_n hx hb dX1_bestTest_4 rfl (lv_at hl 1 rfl) ?_
  have iz5 := rd_in h
  refine va_iald hx hb hK.1 hP 3 0 rfl rfl (rd_in h) dX1_bestTest_5 (lv_topi (fun z5 ez5 => ?_))
  replace h := rd_k h ez5
  refine lv_bipush (v := -2) hx hb dX1_bestTest_6 (by decide) ?_
  refine lv_icmp_eq (tgt := 13) hx hb dX1_bestTest_8 (by decide) (fun c8 => ?_) (fun c8 => ?_)
  · replace h := ite_t c8 h
    refine lv_iconst (v := 0) hx hb dX1_bestTest_13 (by decide) ?_
    refine lv_istore_n (lv' := [(3, .int (0 : Int32)), (0, .ref (aP 0)), (1, .int x1), (2, .ref (aT 0))]) hx hb dX1_bestTest_14 rfl hl (by decide) rfl (fun ls hl => ?_)
    have lp15 : ∀ (n : Nat) (v3_15 : Int32), wl (fun q => f_X1_bestTest_s15 p_steps p_weights p_ranks t_conditions t_sizes t_costs x1 q) n v3_15 = some r → ∀ ls : Array Slot, lv_has ls 4 [(3, .int v3_15), (0, .ref (aP 0)), (1, .int x1), (2, .ref (aT 0))] → W p l e (headSpec wsX1_bestTest ({ frames := 3, cells := 0, slots := 0, locals := 67 })).room s m ([.ref (aP 0), .int x1, .ref (aT 0)] : List Value).toArray below meth c s.heap [] 0 0 (MQ below (QRi r) ([.ref (aP 0), .int x1, .ref (aT 0)] : List Value).toArray s 0 0 (fun _ => False)) (F0 m 15 ls []) := by
      intro n
      induction n with
      | zero =>
        intro v3_15 h
        exact wl_0 h
      | succ n ih1 =>
        intro v3_15 h ls hl
        obtain ⟨o1, h, k1⟩ := wl_s h
        replace h : f_X1_bestTest_s15 p_steps p_weights p_ranks t_conditions t_sizes t_costs x1 v3_15 = some o1 := h
        unfold f_X1_bestTest_s15 at h
        refine lv_iload_n hx hb dX1_bestTest_15 rfl (lv_at hl 0 rfl) ?_
        refine lv_aload_n hx hb dX1_bestTest_16 rfl (lv_at hl 3 rfl) ?_
        refine va_get (D := D) (ci := 4) (v := .int t_conditions) (C := RX4) (T := TX4) (N := 11) hx hb hts hh2 hown hK.1 hP 5 rfl rfl 0 (by decide) hh3 (fun _ h9 => h9) rfl dX1_bestTest_17 ?_
        refine lv_icmp_ge (tgt := 58) hx hb dX1_bestTest_20 (by decide) (fun c20 => ?_) (fun c20 => ?_)
        · replace h := ite_t c20 h
          refine lv_iconst (v := -1) hx hb dX1_bestTest_58 (by decide) ?_
          replace h := Option.some.inj h
          subst h
          replace h := wk_r k1
          subst h
          exact W.iret hx hb hr (fun t ht hW => ⟨_, rfl, rfl, ht⟩) (fun q hq => by cases hq) dX1_bestTest_59
        · replace h := ite_f c20 h
          refine lv_aload_n hx hb dX1_bestTest_23 rfl (lv_at hl 1 rfl) ?_
          refine lv_iload_n hx hb dX1_bestTest_24 rfl (lv_at hl 2 rfl) ?_
          refine lv_iload_n hx hb dX1_bestTest_25 rfl (lv_at hl 0 rfl) ?_
          refine lv_aload_n hx hb dX1_bestTest_26 rfl (lv_at hl 3 rfl) ?_
          obtain ⟨z27, e_27, h⟩ := bd_s h
          refine cr_i (va_runV (As := [.int x1, .int v3_15, .ref (aT 0)]) (rest := []) ⟨hx, hb, hml, hown, hts⟩ (c_X1_isOpen l D g aP aT p_cubes p_steps p_weights p_actions p_ranks t_conditions t_cases t_rules t_defaultAction t_sizes t_strides t_costs t_weights t_sets t_actions t_rulesWith x1 v3_15 z27 e_27) (cwV 3 hts gX1_bestTest_X1_isOpen rfl rfl rfl ⟨rfl, pd_X1_isOpen⟩ ⟨Nat.le_of_ble_eq_true rfl, Nat.le_of_ble_eq_true rfl⟩) (pr_v hK hP (q0 := 0) (ci := 1) rfl rfl rfl) rfl rfl hl.1 rfl (lv_room (Nat.le_of_ble_eq_true rfl)) dX1_bestTest_27 ⟨Nat.zero_le _, Nat.zero_le _⟩) ?_
          refine lb_eq (tgt := 52) hx hb dX1_bestTest_30 (by decide) (fun c30 => ?_) (fun c30 => ?_)
          · replace h := ite_t c30 h
            refine lv_aload_n hx hb dX1_bestTest_33 rfl (lv_at hl 1 rfl) ?_
            refine lv_iload_n hx hb dX1_bestTest_34 rfl (lv_at hl 2 rfl) ?_
            refine lv_iload_n hx hb dX1_bestTest_35 rfl (lv_at hl 0 rfl) ?_
            refine lv_aload_n hx hb dX1_bestTest_36 rfl (lv_at hl 3 rfl) ?_
            obtain ⟨z37, e_37, h⟩ := bd_s h
            refine cr_l (va_runV (As := [.int x1, .int v3_15, .ref (aT 0)]) (rest := []) ⟨hx, hb, hml, hown, hts⟩ (c_X1_rankOfTest l D g aP aT p_cubes p_steps p_weights p_actions p_ranks t_conditions t_cases t_rules t_defaultAction t_sizes t_strides t_costs t_weights t_sets t_actions t_rulesWith x1 v3_15 z37 e_37) (cwV 3 hts gX1_bestTest_X1_rankOfTest rfl rfl rfl ⟨rfl, pd_X1_rankOfTest⟩ ⟨Nat.le_of_ble_eq_true rfl, Nat.le_of_ble_eq_true rfl⟩) (pr_v hK hP (q0 := 0) (ci := 1) rfl rfl rfl) rfl rfl hl.1 rfl (lv_room (Nat.le_of_ble_eq_true rfl)) dX1_bestTest_37 ⟨Nat.zero_le _, Nat.zero_le _⟩) ?_
            refine lv_aload_n hx hb dX1_bestTest_40 rfl (lv_at hl 1 rfl) ?_
            refine va_get (D := D) (ci := 1) (v := .ref (aP 4)) (C := RX1) (T := TX1) (N := 5) hx hb hts hh0 hown hK.1 hP 0 rfl rfl 4 (by decide) hh4 (fun _ h9 => h9) rfl dX1_bestTest_41 ?_
            refine lv_iload_n hx hb dX1_bestTest_44 rfl (lv_at hl 2 rfl) ?_
            have iz45 := iz5
            refine va_lald hx hb hK.1 hP 4 1 rfl rfl iz45 dX1_bestTest_45 (lv_topl (fun z45 ez45 => ?_))
            replace h := nm_n h ez45
            refine W.lcmp hx hb dX1_bestTest_46 ?_
            refine lv_if_ne (tgt := 52) hx hb dX1_bestTest_47 (by decide) (fun c47 => ?_) (fun c47 => ?_)
            · replace h := ite_f c47 h
              refine lv_iinc (v := (v3_15 + 1)) (lv' := [(3, .int (v3_15 + 1)), (0, .ref (aP 0)), (1, .int x1), (2, .ref (aT 0))]) hx hb dX1_bestTest_52 hl (k := 0) rfl rfl (by decide) rfl (fun ls hl => ?_)
              refine lv_goto (tgt := 15) hx hb dX1_bestTest_55 (by decide) ?_
              replace h := Option.some.inj h
              subst h
              exact ih1 (v3_15 + 1) (wk_l k1) ls (lv_sub hl [0, 1, 2, 3] rfl)
            · replace h := ite_t c47 h
              refine lv_iload_n hx hb dX1_bestTest_50 rfl (lv_at hl 0 rfl) ?_
              replace h := Option.some.inj h
              subst h
              replace h := wk_r k1
              subst h
              exact W.iret hx hb hr (fun t ht hW => ⟨_, rfl, rfl, ht⟩) (fun q hq => by cases hq) dX1_bestTest_51
          · replace h := ite_f c30 h
            refine lv_iinc (v := (v3_15 + 1)) (lv' := [(3, .int (v3_15 + 1)), (0, .ref (aP 0)), (1, .int x1), (2, .ref (aT 0))]) hx hb dX1_bestTest_52 hl (k := 0) rfl rfl (by decide) rfl (fun ls hl => ?_)
            refine lv_goto (tgt := 15) hx hb dX1_bestTest_55 (by decide) ?_
            replace h := Option.some.inj h
            subst h
            exact ih1 (v3_15 + 1) (wk_l k1) ls (lv_sub hl [0, 1, 2, 3] rfl)
    exact lp15 5000 (0 : Int32) h ls (lv_sub hl [0, 1, 2, 3] rfl)
  · replace h := ite_f c8 h
    refine lv_iconst (v := -1) hx hb dX1_bestTest_11 (by decide) ?_
    replace h := Option.some.inj h
    subst h
    exact W.iret hx hb hr (fun t ht hW => ⟨_, rfl, rfl, ht⟩) (fun q hq => by cases hq) dX1_bestTest_12
