theorem pd_X5_place : yX5_place.cls ≠ "java/lang/invoke/MethodHandle" ∧ yX5_place.cls ≠ "java/lang/invoke/VarHandle" ∧ (parseMethodDescriptor yX5_place.desc).map (fun d => d.parameters.length) = some 5 := by decide +kernel
def f_X5_place_s116 (e_count : Int32) (p_steps : Nat → Int32) (p_weights : Nat → Int32) (p_actions : Nat → Int32) (p_ranks : Nat → Int64) (t_conditions : Int32) (t_sizes : Nat → Int32) (t_costs : Nat → Int32) (x3 : Int32) (x4 : Int32) (x5 : Int32) (rec : Int32 → Int32 → (Nat → Int32) → (Nat → Int32) → (Nat → Int32) → (Nat → Int32) → (Nat → Int32) → (Nat → Int32) → (Nat → Int32) → (Nat → Int64) → Int32 → (Nat → Int32) → (Nat → Int32) → Int32 → Int32 → Int32 → Option (Int32 × Int32 × (Nat → Int32) × (Nat → Int32) × (Nat → Int32) × (Nat → Int32))) (z26 : Int32) (z109 : Int32) (v9_116 : Int32) (e_count_116 : Int32) (e_worst_116 : Int32) (e_tests_116 : Nat → Int32) (e_actions_116 : Nat → Int32) (e_extents_116 : Nat → Int32) (e_depths_116 : Nat → Int32) : Option ((Int32 × Int32 × Int32 × (Nat → Int32) × (Nat → Int32) × (Nat → Int32) × (Nat → Int32)) ⊕ (Int32 × Int32 × (Nat → Int32) × (Nat → Int32) × (Nat → Int32) × (Nat → Int32))) :=
  (nm (t_sizes z26.toNatClampNeg) fun z124 => (if z124 ≤ v9_116 then (some (.inr (e_count_116, e_worst_116, e_tests_116, e_actions_116, (upd e_extents_116 e_count.toNatClampNeg (e_count_116 - e_count)), e_depths_116))) else (Option.bind (f_X1_part p_steps t_sizes x3 z26 v9_116) fun z138 => (bd6 (rec e_count_116 e_worst_116 e_tests_116 e_actions_116 e_extents_116 e_depths_116 p_steps p_weights p_actions p_ranks t_conditions t_sizes t_costs z138 (x4 + (1 : Int32)) (x5 + z109)) fun w147_0 w147_1 w147_2 w147_3 w147_4 w147_5 => (some (.inl ((v9_116 + 1), w147_0, w147_1, w147_2, w147_3, w147_4, w147_5)))))))
def f_X5_place_b (rec : Int32 → Int32 → (Nat → Int32) → (Nat → Int32) → (Nat → Int32) → (Nat → Int32) → (Nat → Int32) → (Nat → Int32) → (Nat → Int32) → (Nat → Int64) → Int32 → (Nat → Int32) → (Nat → Int32) → Int32 → Int32 → Int32 → Option (Int32 × Int32 × (Nat → Int32) × (Nat → Int32) × (Nat → Int32) × (Nat → Int32))) (e_count : Int32) (e_worst : Int32) (e_tests : Nat → Int32) (e_actions : Nat → Int32) (e_extents : Nat → Int32) (e_depths : Nat → Int32) (p_steps : Nat → Int32) (p_weights : Nat → Int32) (p_actions : Nat → Int32) (p_ranks : Nat → Int64) (t_conditions : Int32) (t_sizes : Nat → Int32) (t_costs : Nat → Int32) (x3 : Int32) (x4 : Int32) (x5 : Int32) : Option (Int32 × Int32 × (Nat → Int32) × (Nat → Int32) × (Nat → Int32) × (Nat → Int32)) :=
  (if (781 : Int32) ≤ e_count then (some (e_count, e_worst, e_tests, e_actions, e_extents, e_depths)) else (if x4 ≤ (4 : Int32) then (Option.bind (f_X1_bestTest p_steps p_weights p_actions p_ranks t_conditions t_sizes t_costs x3) fun z26 => (ix 781 e_count (if z26 = (-1 : Int32) then (rd 1296 p_actions x3 fun z67 => (some ((e_count + (1 : Int32)), (if e_worst < x5 then x5 else e_worst), (upd e_tests e_count.toNatClampNeg z26), (upd e_actions e_count.toNatClampNeg z67), (upd e_extents e_count.toNatClampNeg ((e_count + (1 : Int32)) - e_count)), (upd e_depths e_count.toNatClampNeg x4)))) else (rd 4 t_costs z26 fun z109 => (wl (fun q => f_X5_place_s116 e_count p_steps p_weights p_actions p_ranks t_conditions t_sizes t_costs x3 x4 x5 rec z26 z109 q.1 q.2.1 q.2.2.1 q.2.2.2.1 q.2.2.2.2.1 q.2.2.2.2.2.1 q.2.2.2.2.2.2) 5000 ((0 : Int32), (e_count + (1 : Int32)), (if e_worst < x5 then x5 else e_worst), (upd e_tests e_count.toNatClampNeg z26), (upd e_actions e_count.toNatClampNeg (-1 : Int32)), e_extents, (upd e_depths e_count.toNatClampNeg x4))))))) else (some (e_count, e_worst, e_tests, e_actions, e_extents, e_depths))))
def f_X5_place : Nat → Int32 → Int32 → (Nat → Int32) → (Nat → Int32) → (Nat → Int32) → (Nat → Int32) → (Nat → Int32) → (Nat → Int32) → (Nat → Int32) → (Nat → Int64) → Int32 → (Nat → Int32) → (Nat → Int32) → Int32 → Int32 → Int32 → Option (Int32 × Int32 × (Nat → Int32) × (Nat → Int32) × (Nat → Int32) × (Nat → Int32))
  | 0 => fun _ _ _ _ _ _ _ _ _ _ _ _ _ _ _ _ => none
  | d + 1 => f_X5_place_b (f_X5_place d)
set_option maxHeartbeats 4000000 in
set_option maxRecDepth 100000 in
theorem c_X5_place : ∀ (d : Nat) (l : Launch) (sz : Nat) (D : va_G) (g : Nat → ClassId) (aE aP aT : Nat → Nat) (e_count : Int32) (e_worst : Int32) (e_expected : Int64) (e_classCount : Int32) (e_tests : Nat → Int32) (e_actions : Nat → Int32) (e_extents : Nat → Int32) (e_depths : Nat → Int32) (e_classes : Nat → Int32) (e_lowest : Nat → Int32) (e_leafClasses : Nat → Int32) (p_cubes : Int32) (p_steps : Nat → Int32) (p_weights : Nat → Int32) (p_actions : Nat → Int32) (p_ranks : Nat → Int64) (t_conditions : Int32) (t_cases : Int32) (t_rules : Int32) (t_defaultAction : Int32) (t_sizes : Nat → Int32) (t_strides : Nat → Int32) (t_costs : Nat → Int32) (t_weights : Nat → Int32) (t_sets : Nat → Int32) (t_actions : Nat → Int32) (t_rulesWith : Nat → Int32) (x3 : Int32) (x4 : Int32) (x5 : Int32) (e_count_n : Int32) (e_worst_n : Int32) (e_tests_n : Nat → Int32) (e_actions_n : Nat → Int32) (e_extents_n : Nat → Int32) (e_depths_n : Nat → Int32) (hf : f_X5_place d e_count e_worst e_tests e_actions e_extents e_depths p_steps p_weights p_actions p_ranks t_conditions t_sizes t_costs x3 x4 x5 = some (e_count_n, e_worst_n, e_tests_n, e_actions_n, e_extents_n, e_depths_n)), CM l yX5_place wsX5_place (4 + d) (90 + d * 29) sz D g [.ref (aE 0), .ref (aP 0), .ref (aT 0), .int x3, .int x4, .int x5] (wX5 g aE e_count e_worst e_expected e_classCount e_tests e_actions e_extents e_depths e_classes e_lowest e_leafClasses ++ (wX1 g aP p_cubes p_steps p_weights p_actions p_ranks ++ (wX4 g aT t_conditions t_cases t_rules t_defaultAction t_sizes t_strides t_costs t_weights t_sets t_actions t_rulesWith))) (QMv D (wX5 g aE e_count e_worst e_expected e_classCount e_tests e_actions e_extents e_depths e_classes e_lowest e_leafClasses ++ (wX1 g aP p_cubes p_steps p_weights p_actions p_ranks ++ (wX4 g aT t_conditions t_cases t_rules t_defaultAction t_sizes t_strides t_costs t_weights t_sets t_actions t_rulesWith))) sz (wX5 g aE e_count_n e_worst_n e_expected e_classCount e_tests_n e_actions_n e_extents_n e_depths_n e_classes e_lowest e_leafClasses ++ (wX1 g aP p_cubes p_steps p_weights p_actions p_ranks ++ (wX4 g aT t_conditions t_cases t_rules t_defaultAction t_sizes t_strides t_costs t_weights t_sets t_actions t_rulesWith)))) := by
  intro d
  induction d with
  | zero =>
    intro l sz D g aE aP aT e_count e_worst e_expected e_classCount e_tests e_actions e_extents e_depths e_classes e_lowest e_leafClasses p_cubes p_steps p_weights p_actions p_ranks t_conditions t_cases t_rules t_defaultAction t_sizes t_strides t_costs t_weights t_sets t_actions t_rulesWith x3 x4 x5 e_count_n e_worst_n e_tests_n e_actions_n e_extents_n e_depths_n hf
    cases hf
  | succ d ih =>
    intro l sz D g aE aP aT e_count e_worst e_expected e_classCount e_tests e_actions e_extents e_depths e_classes e_lowest e_leafClasses p_cubes p_steps p_weights p_actions p_ranks t_conditions t_cases t_rules t_defaultAction t_sizes t_strides t_costs t_weights t_sets t_actions t_rulesWith x3 x4 x5 e_count_n e_worst_n e_tests_n e_actions_n e_extents_n e_depths_n hf
    have hlo : 8 + (10 + 11) + (90 + d * 29) ≤ (90 + (d + 1) * 29) := by omega
    refine Met.ofW (cc := cX5_place) (maxL := 10) (ret := none) (by decide) rfl ?_
    intro p e s m args below meth c s₁ B hml hv
    obtain ⟨rfl, hsz, hP, hK, hD0⟩ := hv
    have hx := B.exec
    have hb := B.bytes
    have hr := B.returns
    have hts := atoms_spec (ws := wsX5_place) B.pre
    have hown : s.vm.findClass RX5 = some m.cls := findClass_of_methodNamed B.named
    have hlocks := B.notSynchronized
    have hh0 := (show ∀ w ∈ wsX50, w ∈ wsX5_place from by decide +kernel)
    have hh1 := hts (.fieldLink RX5 33 "DecisionTableCompiler$Tree" "count" "I") (by decide +kernel)
    have hh2 := hts (.fieldLink RX5 9 "DecisionTableCompiler$Tree" "tests" "[I") (by decide +kernel)
    have hh3 := hts (.fieldLink RX5 15 "DecisionTableCompiler$Tree" "actions" "[I") (by decide +kernel)
    have hh4 := hts (.fieldLink RX5 21 "DecisionTableCompiler$Tree" "depths" "[I") (by decide +kernel)
    have hh5 := hts (.fieldLink RX5 37 "DecisionTableCompiler$Tree" "worst" "I") (by decide +kernel)
    have hh6 := hts (.methodLink RX5 67 Lib.Math.max.name) (by decide +kernel)
    have hh7 := hts (.static Lib.Math.max.name) (by decide +kernel)
    have hh8 := hts (.initialized "java/lang/Math") (by decide +kernel)
    have hh9 := hts (.code Lib.Math.max.name Lib.Math.max.code 2 (some .int)) (by decide +kernel)
    have hh10 := (show ∀ w ∈ wsX40, w ∈ wsX5_place from by decide +kernel)
    have hh11 := hts (.fieldLink RX5 73 "DecisionTableCompiler$Table" "costs" "[I") (by decide +kernel)
    have hh12 := hts (.fieldLink RX5 78 "DecisionTableCompiler$Table" "sizes" "[I") (by decide +kernel)
    have hh13 := hts (.fieldLink RX5 18 "DecisionTableCompiler$Tree" "extents" "[I") (by decide +kernel)
    have hh14 := (show ∀ w ∈ wsX10, w ∈ wsX5_place from by decide +kernel)
    have hh15 := hts (.fieldLink RX5 66 "DecisionTableCompiler$Planner" "actions" "[I") (by decide +kernel)
    subst hsz
    have hD := hD0.self (sz := s.heap.size)
    have hA : ∀ q : Nat, s.heap.size ≤ q → va_A (wX5 g aE e_count e_worst e_expected e_classCount e_tests e_actions e_extents e_depths e_classes e_lowest e_leafClasses ++ (wX1 g aP p_cubes p_steps p_weights p_actions p_ranks ++ (wX4 g aT t_conditions t_cases t_rules t_defaultAction t_sizes t_strides t_costs t_weights t_sets t_actions t_rulesWith))) s.heap.size q := fun q h => Or.inr h
    have hS : va_S (va_A (wX5 g aE e_count e_worst e_expected e_classCount e_tests e_actions e_extents e_depths e_classes e_lowest e_leafClasses ++ (wX1 g aP p_cubes p_steps p_weights p_actions p_ranks ++ (wX4 g aT t_conditions t_cases t_rules t_defaultAction t_sizes t_strides t_costs t_weights t_sets t_actions t_rulesWith))) s.heap.size) s.heap s.heap [] := va_S.rf
    have hl := lv_entry ([.ref (aE 0), .ref (aP 0), .ref (aT 0), .int x3, .int x4, .int x5]) (n := 10) (Nat.le_of_ble_eq_true rfl)
    rw [lg_entry_eq]
    generalize (lg_sl ([.ref (aE 0), .ref (aP 0), .ref (aT 0), .int x3, .int x4, .int x5]) ++ List.replicate (10 - (lg_sl ([.ref (aE 0), .ref (aP 0), .ref (aT 0), .int x3, .int x4, .int x5])).length) Slot.unset).toArray = ls at hl ⊢
    replace hl : lv_has ls 10 [(0, .ref (aE 0)), (1, .ref (aP 0)), (2, .ref (aT 0)), (3, .int x3), (4, .int x4), (5, .int x5)] := hl
    have h : f_X5_place_b (f_X5_place d) e_count e_worst e_tests e_actions e_extents e_depths p_steps p_weights p_actions p_ranks t_conditions t_sizes t_costs x3 x4 x5 = some (e_count_n, e_worst_n, e_tests_n, e_actions_n, e_extents_n, e_depths_n) := hf
    unfold f_X5_place_b at h
    obtain ⟨H, hH⟩ : ∃ H, H = s.heap := ⟨_, rfl⟩
    obtain ⟨locs, hlc⟩ : ∃ q : List Loc, q = [] := ⟨_, rfl⟩
    have hS : va_S (va_A (wX5 g aE e_count e_worst e_expected e_classCount e_tests e_actions e_extents e_depths e_classes e_lowest e_leafClasses ++ (wX1 g aP p_cubes p_steps p_weights p_actions p_ranks ++ (wX4 g aT t_conditions t_cases t_rules t_defaultAction t_sizes t_strides t_costs t_weights t_sets t_actions t_rulesWith))) s.heap.size) s.heap H locs := by rw [hH, hlc]; exact hS
    replace hP : va_P D vwCl (wX5 g aE e_count e_worst e_expected e_classCount e_tests e_actions e_extents e_depths e_classes e_lowest e_leafClasses ++ (wX1 g aP p_cubes p_steps p_weights p_actions p_ranks ++ (wX4 g aT t_conditions t_cases t_rules t_defaultAction t_sizes t_strides t_costs t_weights t_sets t_actions t_rulesWith))) H := by rw [hH]; exact hP
    suffices hW : W p l e (headSpec wsX5_place ({ frames := (4 + (d + 1)), cells := 0, slots := 0, locals := (90 + (d + 1) * 29) })).room s m ([.ref (aE 0), .ref (aP 0), .ref (aT 0), .int x3, .int x4, .int x5] : List Value).toArray below meth c H locs 0 0 (MQ below (QMv D (wX5 g aE e_count e_worst e_expected e_classCount e_tests e_actions e_extents e_depths e_classes e_lowest e_leafClasses ++ (wX1 g aP p_cubes p_steps p_weights p_actions p_ranks ++ (wX4 g aT t_conditions t_cases t_rules t_defaultAction t_sizes t_strides t_costs t_weights t_sets t_actions t_rulesWith))) s.heap.size (wX5 g aE e_count_n e_worst_n e_expected e_classCount e_tests_n e_actions_n e_extents_n e_depths_n e_classes e_lowest e_leafClasses ++ (wX1 g aP p_cubes p_steps p_weights p_actions p_ranks ++ (wX4 g aT t_conditions t_cases t_rules t_defaultAction t_sizes t_strides t_costs t_weights t_sets t_actions t_rulesWith)))) ([.ref (aE 0), .ref (aP 0), .ref (aT 0), .int x3, .int x4, .int x5] : List Value).toArray s 0 0 (va_A (wX5 g aE e_count e_worst e_expected e_classCount e_tests e_actions e_extents e_depths e_classes e_lowest e_leafClasses ++ (wX1 g aP p_cubes p_steps p_weights p_actions p_ranks ++ (wX4 g aT t_conditions t_cases t_rules t_defaultAction t_sizes t_strides t_costs t_weights t_sets t_actions t_rulesWith))) s.heap.size)) (F0 m 0 ls []) by rw [hH, hlc] at hW; exact hW
    clear hH hlc
    refine lv_aload_n hx hb dX5_place_0 rfl (lv_at hl 0 rfl) ?_
    refine va_get (D := D) (ci := 5) (v := .int e_count) (C := RX5) (T := TX5) (N := 11) hx hb hts hh0 hown hK.1 hP 0 rfl rfl 0 (by decide) hh1 (fun _ h9 => h9) rfl dX5_place_1 ?_
    refine lv_sipush (v := 781) hx hb dX5_place_4 (by decide) ?_
    refine lv_icmp_ge (tgt := 16) hx hb dX5_place_7 (by decide) (fun c7 => ?_) (fun c7 => ?_)
    · replace h := ite_t c7 h
      replace h := Option.some.inj h
      have hj0 := (Prod.mk.inj h).1
      have hg0 := (Prod.mk.inj h).2
      have hj1 := (Prod.mk.inj hg0).1
      have hg1 := (Prod.mk.inj hg0).2
      have hj2 := (Prod.mk.inj hg1).1
      have hg2 := (Prod.mk.inj hg1).2
      have hj3 := (Prod.mk.inj hg2).1
      have hg3 := (Prod.mk.inj hg2).2
      have hj4 := (Prod.mk.inj hg3).1
      have hg4 := (Prod.mk.inj hg3).2
      clear hg0
      clear hg1
      clear hg2
      clear hg3
      subst hj0
      subst hj1
      subst hj2
      subst hj3
      subst hj4
      subst hg4
      exact W.vret hx hb hr (fun t ht hW => ⟨⟨(), rfl, trivial, by rw [ht]; exact hP, hD⟩, hS.F ht⟩) hS.2.2 dX5_place_16
    · replace h := ite_f c7 h
      refine lv_iload hx hb dX5_place_10 (lv_at hl 4 rfl) ?_
      refine lv_iconst (v := 4) hx hb dX5_place_12 (by decide) ?_
      refine lv_icmp_le (tgt := 17) hx hb dX5_place_13 (by decide) (fun c13 => ?_) (fun c13 => ?_)
      · replace h := ite_t c13 h
        refine lv_aload_n hx hb dX5_place_17 rfl (lv_at hl 0 rfl) ?_
        refine va_get (D := D) (ci := 5) (v := .int e_count) (C := RX5) (T := TX5) (N := 11) hx hb hts hh0 hown hK.1 hP 0 rfl rfl 0 (by decide) hh1 (fun _ h9 => h9) rfl dX5_place_18 ?_
        refine lv_istore (lv' := [(6, .int e_count), (0, .ref (aE 0)), (1, .ref (aP 0)), (2, .ref (aT 0)), (3, .int x3), (4, .int x4), (5, .int x5)]) hx hb dX5_place_21 hl (by decide) rfl (fun ls hl => ?_)
        refine lv_aload_n hx hb dX5_place_23 rfl (lv_at hl 2 rfl) ?_
        refine lv_iload_n hx hb dX5_place_24 rfl (lv_at hl 4 rfl) ?_
        refine lv_aload_n hx hb dX5_place_25 rfl (lv_at hl 3 rfl) ?_
        obtain ⟨z26, e_26, h⟩ := bd_s h
        refine cr_i (va_runV (As := [.int x3, .ref (aT 0)]) (rest := []) ⟨hx, hb, hml, hown, hts⟩ (c_X1_bestTest l D g aP aT p_cubes p_steps p_weights p_actions p_ranks t_conditions t_cases t_rules t_defaultAction t_sizes t_strides t_costs t_weights t_sets t_actions t_rulesWith x3 z26 e_26) (cwV 2 hts gX5_place_X1_bestTest rfl rfl rfl ⟨rfl, pd_X1_bestTest⟩ ⟨Nat.le_trans (Nat.le_of_ble_eq_true rfl : 3 + 1 ≤ 4) (Nat.le_add_right _ _), Nat.le_trans (Nat.le_of_ble_eq_true rfl : 8 + (4 + 11) + 67 ≤ 90) (Nat.le_add_right _ _)⟩) (pr_v hK (hP.sub (ws' := (wX1 g aP p_cubes p_steps p_weights p_actions p_ranks ++ (wX4 g aT t_conditions t_cases t_rules t_defaultAction t_sizes t_strides t_costs t_weights t_sets t_actions t_rulesWith))) [8, 9, 10, 11, 12, 13, 14, 15, 16, 17, 18, 19, 20] rfl) (q0 := 0) (ci := 1) rfl rfl rfl) rfl rfl hl.1 rfl (lv_room (Nat.le_of_ble_eq_true rfl)) dX5_place_26 ⟨Nat.zero_le _, Nat.zero_le _⟩) ?_
        refine lv_istore (lv' := [(7, .int z26), (6, .int e_count), (0, .ref (aE 0)), (1, .ref (aP 0)), (2, .ref (aT 0)), (3, .int x3), (4, .int x4), (5, .int x5)]) hx hb dX5_place_29 hl (by decide) rfl (fun ls hl => ?_)
        refine lv_aload_n hx hb dX5_place_31 rfl (lv_at hl 2 rfl) ?_
        refine lv_dup hx hb dX5_place_32 rfl ?_
        refine va_get (D := D) (ci := 5) (v := .int e_count) (C := RX5) (T := TX5) (N := 11) hx hb hts hh0 hown hK.1 hP 0 rfl rfl 0 (by decide) hh1 (fun _ h9 => h9) rfl dX5_place_33 ?_
        refine lv_iconst (v := 1) hx hb dX5_place_36 (by decide) ?_
        refine lv_iadd hx hb dX5_place_37 ?_
        refine va_put (D := D) (ci := 5) (v := .int (e_count + (1 : Int32))) (ty := .int) (C := RX5) (T := TX5) (N := 11) hx hb hts hh0 tyX5 tyX5_ok nmX5 hown hK.1 hP hD hS 0 rfl rfl 0 (by decide) hh1 (fun _ h9 => h9) rfl (by decide +kernel) rfl rfl (Nat.le_of_ble_eq_true rfl) dX5_place_38 (fun H locs hP hD hS => ?_)
        replace hP : va_P D vwCl (wX5 g aE (e_count + (1 : Int32)) e_worst e_expected e_classCount e_tests e_actions e_extents e_depths e_classes e_lowest e_leafClasses ++ (wX1 g aP p_cubes p_steps p_weights p_actions p_ranks ++ (wX4 g aT t_conditions t_cases t_rules t_defaultAction t_sizes t_strides t_costs t_weights t_sets t_actions t_rulesWith))) H := hP
        replace hD : va_D (va_A (wX5 g aE e_count e_worst e_expected e_classCount e_tests e_actions e_extents e_depths e_classes e_lowest e_leafClasses ++ (wX1 g aP p_cubes p_steps p_weights p_actions p_ranks ++ (wX4 g aT t_conditions t_cases t_rules t_defaultAction t_sizes t_strides t_costs t_weights t_sets t_actions t_rulesWith))) s.heap.size) (wX5 g aE (e_count + (1 : Int32)) e_worst e_expected e_classCount e_tests e_actions e_extents e_depths e_classes e_lowest e_leafClasses ++ (wX1 g aP p_cubes p_steps p_weights p_actions p_ranks ++ (wX4 g aT t_conditions t_cases t_rules t_defaultAction t_sizes t_strides t_costs t_weights t_sets t_actions t_rulesWith))) := hD
        refine lv_aload_n hx hb dX5_place_41 rfl (lv_at hl 2 rfl) ?_
        refine va_get (D := D) (ci := 5) (v := .ref (aE 1)) (C := RX5) (T := TX5) (N := 11) hx hb hts hh0 hown hK.1 hP 0 rfl rfl 4 (by decide) hh2 (fun _ h9 => h9) rfl dX5_place_42 ?_
        refine lv_iload hx hb dX5_place_45 (lv_at hl 1 rfl) ?_
        refine lv_iload hx hb dX5_place_47 (lv_at hl 0 rfl) ?_
        have ib49 := ix_in h
        replace h := ix_k h
        refine va_iast hx hb hK.1 hP hD hS 1 0 rfl rfl ib49 dX5_place_49 (fun H locs hP hD hS => ?_)
        replace hP : va_P D vwCl (wX5 g aE (e_count + (1 : Int32)) e_worst e_expected e_classCount (upd e_tests e_count.toNatClampNeg z26) e_actions e_extents e_depths e_classes e_lowest e_leafClasses ++ (wX1 g aP p_cubes p_steps p_weights p_actions p_ranks ++ (wX4 g aT t_conditions t_cases t_rules t_defaultAction t_sizes t_strides t_costs t_weights t_sets t_actions t_rulesWith))) H := hP
        replace hD : va_D (va_A (wX5 g aE e_count e_worst e_expected e_classCount e_tests e_actions e_extents e_depths e_classes e_lowest e_leafClasses ++ (wX1 g aP p_cubes p_steps p_weights p_actions p_ranks ++ (wX4 g aT t_conditions t_cases t_rules t_defaultAction t_sizes t_strides t_costs t_weights t_sets t_actions t_rulesWith))) s.heap.size) (wX5 g aE (e_count + (1 : Int32)) e_worst e_expected e_classCount (upd e_tests e_count.toNatClampNeg z26) e_actions e_extents e_depths e_classes e_lowest e_leafClasses ++ (wX1 g aP p_cubes p_steps p_weights p_actions p_ranks ++ (wX4 g aT t_conditions t_cases t_rules t_defaultAction t_sizes t_strides t_costs t_weights t_sets t_actions t_rulesWith))) := hD
        refine lv_aload_n hx hb dX5_place_50 rfl (lv_at hl 2 rfl) ?_
        refine va_get (D := D) (ci := 5) (v := .ref (aE 2)) (C := RX5) (T := TX5) (N := 11) hx hb hts hh0 hown hK.1 hP 0 rfl rfl 5 (by decide) hh3 (fun _ h9 => h9) rfl dX5_place_51 ?_
        refine lv_iload hx hb dX5_place_54 (lv_at hl 1 rfl) ?_
        refine lv_iload hx hb dX5_place_56 (lv_at hl 0 rfl) ?_
        refine lv_iconst (v := -1) hx hb dX5_place_58 (by decide) ?_
        refine lv_icmp_ne (tgt := 71) hx hb dX5_place_59 (by decide) (fun c59 => ?_) (fun c59 => ?_)
        · replace h := ite_f c59 h
          refine lv_iconst (v := -1) hx hb dX5_place_71 (by decide) ?_
          refine va_iast hx hb hK.1 hP hD hS 2 0 rfl rfl ib49 dX5_place_72 (fun H locs hP hD hS => ?_)
          replace hP : va_P D vwCl (wX5 g aE (e_count + (1 : Int32)) e_worst e_expected e_classCount (upd e_tests e_count.toNatClampNeg z26) (upd e_actions e_count.toNatClampNeg (-1 : Int32)) e_extents e_depths e_classes e_lowest e_leafClasses ++ (wX1 g aP p_cubes p_steps p_weights p_actions p_ranks ++ (wX4 g aT t_conditions t_cases t_rules t_defaultAction t_sizes t_strides t_costs t_weights t_sets t_actions t_rulesWith))) H := hP
          replace hD : va_D (va_A (wX5 g aE e_count e_worst e_expected e_classCount e_tests e_actions e_extents e_depths e_classes e_lowest e_leafClasses ++ (wX1 g aP p_cubes p_steps p_weights p_actions p_ranks ++ (wX4 g aT t_conditions t_cases t_rules t_defaultAction t_sizes t_strides t_costs t_weights t_sets t_actions t_rulesWith))) s.heap.size) (wX5 g aE (e_count + (1 : Int32)) e_worst e_expected e_classCount (upd e_tests e_count.toNatClampNeg z26) (upd e_actions e_count.toNatClampNeg (-1 : Int32)) e_extents e_depths e_classes e_lowest e_leafClasses ++ (wX1 g aP p_cubes p_steps p_weights p_actions p_ranks ++ (wX4 g aT t_conditions t_cases t_rules t_defaultAction t_sizes t_strides t_costs t_weights t_sets t_actions t_rulesWith))) := hD
          refine lv_aload_n hx hb dX5_place_73 rfl (lv_at hl 2 rfl) ?_
          refine va_get (D := D) (ci := 5) (v := .ref (aE 4)) (C := RX5) (T := TX5) (N := 11) hx hb hts hh0 hown hK.1 hP 0 rfl rfl 7 (by decide) hh4 (fun _ h9 => h9) rfl dX5_place_74 ?_
          refine lv_iload hx hb dX5_place_77 (lv_at hl 1 rfl) ?_
          refine lv_iload hx hb dX5_place_79 (lv_at hl 6 rfl) ?_
          refine va_iast hx hb hK.1 hP hD hS 4 0 rfl rfl ib49 dX5_place_81 (fun H locs hP hD hS => ?_)
          replace hP : va_P D vwCl (wX5 g aE (e_count + (1 : Int32)) e_worst e_expected e_classCount (upd e_tests e_count.toNatClampNeg z26) (upd e_actions e_count.toNatClampNeg (-1 : Int32)) e_extents (upd e_depths e_count.toNatClampNeg x4) e_classes e_lowest e_leafClasses ++ (wX1 g aP p_cubes p_steps p_weights p_actions p_ranks ++ (wX4 g aT t_conditions t_cases t_rules t_defaultAction t_sizes t_strides t_costs t_weights t_sets t_actions t_rulesWith))) H := hP
          replace hD : va_D (va_A (wX5 g aE e_count e_worst e_expected e_classCount e_tests e_actions e_extents e_depths e_classes e_lowest e_leafClasses ++ (wX1 g aP p_cubes p_steps p_weights p_actions p_ranks ++ (wX4 g aT t_conditions t_cases t_rules t_defaultAction t_sizes t_strides t_costs t_weights t_sets t_actions t_rulesWith))) s.heap.size) (wX5 g aE (e_count + (1 : Int32)) e_worst e_expected e_classCount (upd e_tests e_count.toNatClampNeg z26) (upd e_actions e_count.toNatClampNeg (-1 : Int32)) e_extents (upd e_depths e_count.toNatClampNeg x4) e_classes e_lowest e_leafClasses ++ (wX1 g aP p_cubes p_steps p_weights p_actions p_ranks ++ (wX4 g aT t_conditions t_cases t_rules t_defaultAction t_sizes t_strides t_costs t_weights t_sets t_actions t_rulesWith))) := hD
          refine lv_aload_n hx hb dX5_place_82 rfl (lv_at hl 2 rfl) ?_
          refine lv_aload_n hx hb dX5_place_83 rfl (lv_at hl 2 rfl) ?_
          refine va_get (D := D) (ci := 5) (v := .int e_worst) (C := RX5) (T := TX5) (N := 11) hx hb hts hh0 hown hK.1 hP 0 rfl rfl 1 (by decide) hh5 (fun _ h9 => h9) rfl dX5_place_84 ?_
          refine lv_iload hx hb dX5_place_87 (lv_at hl 7 rfl) ?_
          refine va_mmax hx hb (hml.trans hl.1.symm) hown hh6 hh7 hh8 hh9 (Nat.le_trans (Nat.le_of_ble_eq_true rfl : 1 ≤ 4) (Nat.le_add_right _ _)) (Nat.le_trans (Nat.le_of_ble_eq_true rfl : 1 + 13 ≤ 90) (Nat.le_add_right _ _)) (Nat.zero_le _) (Nat.zero_le _) dX5_place_89 ?_
          refine va_put (D := D) (ci := 5) (v := .int (if e_worst < x5 then x5 else e_worst)) (ty := .int) (C := RX5) (T := TX5) (N := 11) hx hb hts hh0 tyX5 tyX5_ok nmX5 hown hK.1 hP hD hS 0 rfl rfl 1 (by decide) hh5 (fun _ h9 => h9) rfl (by decide +kernel) rfl rfl (Nat.le_of_ble_eq_true rfl) dX5_place_92 (fun H locs hP hD hS => ?_)
          replace hP : va_P D vwCl (wX5 g aE (e_count + (1 : Int32)) (if e_worst < x5 then x5 else e_worst) e_expected e_classCount (upd e_tests e_count.toNatClampNeg z26) (upd e_actions e_count.toNatClampNeg (-1 : Int32)) e_extents (upd e_depths e_count.toNatClampNeg x4) e_classes e_lowest e_leafClasses ++ (wX1 g aP p_cubes p_steps p_weights p_actions p_ranks ++ (wX4 g aT t_conditions t_cases t_rules t_defaultAction t_sizes t_strides t_costs t_weights t_sets t_actions t_rulesWith))) H := hP
          replace hD : va_D (va_A (wX5 g aE e_count e_worst e_expected e_classCount e_tests e_actions e_extents e_depths e_classes e_lowest e_leafClasses ++ (wX1 g aP p_cubes p_steps p_weights p_actions p_ranks ++ (wX4 g aT t_conditions t_cases t_rules t_defaultAction t_sizes t_strides t_costs t_weights t_sets t_actions t_rulesWith))) s.heap.size) (wX5 g aE (e_count + (1 : Int32)) (if e_worst < x5 then x5 else e_worst) e_expected e_classCount (upd e_tests e_count.toNatClampNeg z26) (upd e_actions e_count.toNatClampNeg (-1 : Int32)) e_extents (upd e_depths e_count.toNatClampNeg x4) e_classes e_lowest e_leafClasses ++ (wX1 g aP p_cubes p_steps p_weights p_actions p_ranks ++ (wX4 g aT t_conditions t_cases t_rules t_defaultAction t_sizes t_strides t_costs t_weights t_sets t_actions t_rulesWith))) := hD
          refine lv_iload hx hb dX5_place_95 (lv_at hl 0 rfl) ?_
          refine lv_iconst (v := -1) hx hb dX5_place_97 (by decide) ?_
          refine lv_icmp_eq (tgt := 156) hx hb dX5_place_98 (by decide) (fun q => absurd q c59) (fun _ => ?_)
          refine lv_iload hx hb dX5_place_101 (lv_at hl 7 rfl) ?_
          refine lv_aload_n hx hb dX5_place_103 rfl (lv_at hl 4 rfl) ?_
          refine va_get (D := D) (ci := 4) (v := .ref (aT 3)) (C := RX4) (T := TX4) (N := 11) hx hb hts hh10 hown hK.1 hP 13 rfl rfl 6 (by decide) hh11 (fun _ h9 => h9) rfl dX5_place_104 ?_
          refine lv_iload hx hb dX5_place_107 (lv_at hl 0 rfl) ?_
          have iz109 := rd_in h
          refine va_iald hx hb hK.1 hP 16 0 rfl rfl (rd_in h) dX5_place_109 (lv_topi (fun z109 ez109 => ?_))
          replace h := rd_k h ez109
          refine lv_iadd hx hb dX5_place_110 ?_
          refine lv_istore (lv' := [(8, .int (x5 + z109)), (7, .int z26), (6, .int e_count), (0, .ref (aE 0)), (1, .ref (aP 0)), (2, .ref (aT 0)), (3, .int x3), (4, .int x4), (5, .int x5)]) hx hb dX5_place_111 hl (by decide) rfl (fun ls hl => ?_)
          refine lv_iconst (v := 0) hx hb dX5_place_113 (by decide) ?_
          refine lv_istore (lv' := [(9, .int (0 : Int32)), (8, .int (x5 + z109)), (7, .int z26), (6, .int e_count), (0, .ref (aE 0)), (1, .ref (aP 0)), (2, .ref (aT 0)), (3, .int x3), (4, .int x4), (5, .int x5)]) hx hb dX5_place_114 hl (by decide) rfl (fun ls hl => ?_)
          have lp116 : ∀ (n : Nat) (v9_116 : Int32) (e_count_116 : Int32) (e_worst_116 : Int32) (e_tests_116 : Nat → Int32) (e_actions_116 : Nat → Int32) (e_extents_116 : Nat → Int32) (e_depths_116 : Nat → Int32) (H : Heap) (locs : List Loc), va_P D vwCl (wX5 g aE e_count_116 e_worst_116 e_expected e_classCount e_tests_116 e_actions_116 e_extents_116 e_depths_116 e_classes e_lowest e_leafClasses ++ (wX1 g aP p_cubes p_steps p_weights p_actions p_ranks ++ (wX4 g aT t_conditions t_cases t_rules t_defaultAction t_sizes t_strides t_costs t_weights t_sets t_actions t_rulesWith))) H → va_D (va_A (wX5 g aE e_count e_worst e_expected e_classCount e_tests e_actions e_extents e_depths e_classes e_lowest e_leafClasses ++ (wX1 g aP p_cubes p_steps p_weights p_actions p_ranks ++ (wX4 g aT t_conditions t_cases t_rules t_defaultAction t_sizes t_strides t_costs t_weights t_sets t_actions t_rulesWith))) s.heap.size) (wX5 g aE e_count_116 e_worst_116 e_expected e_classCount e_tests_116 e_actions_116 e_extents_116 e_depths_116 e_classes e_lowest e_leafClasses ++ (wX1 g aP p_cubes p_steps p_weights p_actions p_ranks ++ (wX4 g aT t_conditions t_cases t_rules t_defaultAction t_sizes t_strides t_costs t_weights t_sets t_actions t_rulesWith))) → va_S (va_A (wX5 g aE e_count e_worst e_expected e_classCount e_tests e_actions e_extents e_depths e_classes e_lowest e_leafClasses ++ (wX1 g aP p_cubes p_steps p_weights p_actions p_ranks ++ (wX4 g aT t_conditions t_cases t_rules t_defaultAction t_sizes t_strides t_costs t_weights t_sets t_actions t_rulesWith))) s.heap.size) s.heap H locs → wl (fun q => f_X5_place_s116 e_count p_steps p_weights p_actions p_ranks t_conditions t_sizes t_costs x3 x4 x5 (f_X5_place d) z26 z109 q.1 q.2.1 q.2.2.1 q.2.2.2.1 q.2.2.2.2.1 q.2.2.2.2.2.1 q.2.2.2.2.2.2) n (v9_116, e_count_116, e_worst_116, e_tests_116, e_actions_116, e_extents_116, e_depths_116) = some (e_count_n, e_worst_n, e_tests_n, e_actions_n, e_extents_n, e_depths_n) → ∀ ls : Array Slot, lv_has ls 10 [(9, .int v9_116), (8, .int (x5 + z109)), (7, .int z26), (6, .int e_count), (0, .ref (aE 0)), (1, .ref (aP 0)), (2, .ref (aT 0)), (3, .int x3), (4, .int x4)] → W p l e (headSpec wsX5_place ({ frames := (4 + (d + 1)), cells := 0, slots := 0, locals := (90 + (d + 1) * 29) })).room s m ([.ref (aE 0), .ref (aP 0), .ref (aT 0), .int x3, .int x4, .int x5] : List Value).toArray below meth c H locs 0 0 (MQ below (QMv D (wX5 g aE e_count e_worst e_expected e_classCount e_tests e_actions e_extents e_depths e_classes e_lowest e_leafClasses ++ (wX1 g aP p_cubes p_steps p_weights p_actions p_ranks ++ (wX4 g aT t_conditions t_cases t_rules t_defaultAction t_sizes t_strides t_costs t_weights t_sets t_actions t_rulesWith))) s.heap.size (wX5 g aE e_count_n e_worst_n e_expected e_classCount e_tests_n e_actions_n e_extents_n e_depths_n e_classes e_lowest e_leafClasses ++ (wX1 g aP p_cubes p_steps p_weights p_actions p_ranks ++ (wX4 g aT t_conditions t_cases t_rules t_defaultAction t_sizes t_strides t_costs t_weights t_sets t_actions t_rulesWith)))) ([.ref (aE 0), .ref (aP 0), .ref (aT 0), .int x3, .int x4, .int x5] : List Value).toArray s 0 0 (va_A (wX5 g aE e_count e_worst e_expected e_classCount e_tests e_actions e_extents e_depths e_classes e_lowest e_leafClasses ++ (wX1 g aP p_cubes p_steps p_weights p_actions p_ranks ++ (wX4 g aT t_conditions t_cases t_rules t_defaultAction t_sizes t_strides t_costs t_weights t_sets t_actions t_rulesWith))) s.heap.size)) (F0 m 116 ls []) := by
            intro n
            induction n with
            | zero =>
              intro v9_116 e_count_116 e_worst_116 e_tests_116 e_actions_116 e_extents_116 e_depths_116 H locs hP hD hS h
              exact wl_0 h
            | succ n ih1 =>
              intro v9_116 e_count_116 e_worst_116 e_tests_116 e_actions_116 e_extents_116 e_depths_116 H locs hP hD hS h ls hl
              obtain ⟨o1, h, k1⟩ := wl_s h
              replace h : f_X5_place_s116 e_count p_steps p_weights p_actions p_ranks t_conditions t_sizes t_costs x3 x4 x5 (f_X5_place d) z26 z109 v9_116 e_count_116 e_worst_116 e_tests_116 e_actions_116 e_extents_116 e_depths_116 = some o1 := h
              unfold f_X5_place_s116 at h
              refine lv_iload hx hb dX5_place_116 (lv_at hl 0 rfl) ?_
              refine lv_aload_n hx hb dX5_place_118 rfl (lv_at hl 6 rfl) ?_
              refine va_get (D := D) (ci := 4) (v := .ref (aT 1)) (C := RX4) (T := TX4) (N := 11) hx hb hts hh10 hown hK.1 hP 13 rfl rfl 4 (by decide) hh12 (fun _ h9 => h9) rfl dX5_place_119 ?_
              refine lv_iload hx hb dX5_place_122 (lv_at hl 2 rfl) ?_
              have iz124 := iz109
              refine va_iald hx hb hK.1 hP 14 0 rfl rfl iz124 dX5_place_124 (lv_topi (fun z124 ez124 => ?_))
              replace h := nm_n h ez124
              refine lv_icmp_ge (tgt := 156) hx hb dX5_place_125 (by decide) (fun c125 => ?_) (fun c125 => ?_)
              · replace h := ite_t c125 h
                refine lv_aload_n hx hb dX5_place_156 rfl (lv_at hl 4 rfl) ?_
                refine va_get (D := D) (ci := 5) (v := .ref (aE 3)) (C := RX5) (T := TX5) (N := 11) hx hb hts hh0 hown hK.1 hP 0 rfl rfl 6 (by decide) hh13 (fun _ h9 => h9) rfl dX5_place_157 ?_
                refine lv_iload hx hb dX5_place_160 (lv_at hl 3 rfl) ?_
                refine lv_aload_n hx hb dX5_place_162 rfl (lv_at hl 4 rfl) ?_
                refine va_get (D := D) (ci := 5) (v := .int e_count_116) (C := RX5) (T := TX5) (N := 11) hx hb hts hh0 hown hK.1 hP 0 rfl rfl 0 (by decide) hh1 (fun _ h9 => h9) rfl dX5_place_163 ?_
                refine lv_iload hx hb dX5_place_166 (lv_at hl 3 rfl) ?_
                refine lv_isub hx hb dX5_place_168 ?_
                refine va_iast hx hb hK.1 hP hD hS 3 0 rfl rfl ib49 dX5_place_169 (fun H locs hP hD hS => ?_)
                replace hP : va_P D vwCl (wX5 g aE e_count_116 e_worst_116 e_expected e_classCount e_tests_116 e_actions_116 (upd e_extents_116 e_count.toNatClampNeg (e_count_116 - e_count)) e_depths_116 e_classes e_lowest e_leafClasses ++ (wX1 g aP p_cubes p_steps p_weights p_actions p_ranks ++ (wX4 g aT t_conditions t_cases t_rules t_defaultAction t_sizes t_strides t_costs t_weights t_sets t_actions t_rulesWith))) H := hP
                replace hD : va_D (va_A (wX5 g aE e_count e_worst e_expected e_classCount e_tests e_actions e_extents e_depths e_classes e_lowest e_leafClasses ++ (wX1 g aP p_cubes p_steps p_weights p_actions p_ranks ++ (wX4 g aT t_conditions t_cases t_rules t_defaultAction t_sizes t_strides t_costs t_weights t_sets t_actions t_rulesWith))) s.heap.size) (wX5 g aE e_count_116 e_worst_116 e_expected e_classCount e_tests_116 e_actions_116 (upd e_extents_116 e_count.toNatClampNeg (e_count_116 - e_count)) e_depths_116 e_classes e_lowest e_leafClasses ++ (wX1 g aP p_cubes p_steps p_weights p_actions p_ranks ++ (wX4 g aT t_conditions t_cases t_rules t_defaultAction t_sizes t_strides t_costs t_weights t_sets t_actions t_rulesWith))) := hD
                replace h := Option.some.inj h
                subst h
                replace h := wk_r k1
                have hj0 := (Prod.mk.inj h).1
                have hg0 := (Prod.mk.inj h).2
                have hj1 := (Prod.mk.inj hg0).1
                have hg1 := (Prod.mk.inj hg0).2
                have hj2 := (Prod.mk.inj hg1).1
                have hg2 := (Prod.mk.inj hg1).2
                have hj3 := (Prod.mk.inj hg2).1
                have hg3 := (Prod.mk.inj hg2).2
                have hj4 := (Prod.mk.inj hg3).1
                have hg4 := (Prod.mk.inj hg3).2
                clear hg0
                clear hg1
                clear hg2
                clear hg3
                subst hj0
                subst hj1
                subst hj2
                subst hj3
                subst hj4
                subst hg4
                exact W.vret hx hb hr (fun t ht hW => ⟨⟨(), rfl, trivial, by rw [ht]; exact hP, hD⟩, hS.F ht⟩) hS.2.2 dX5_place_170
              · replace h := ite_f c125 h
                refine lv_aload_n hx hb dX5_place_128 rfl (lv_at hl 4 rfl) ?_
                refine lv_aload_n hx hb dX5_place_129 rfl (lv_at hl 5 rfl) ?_
                refine lv_aload_n hx hb dX5_place_130 rfl (lv_at hl 6 rfl) ?_
                refine lv_aload_n hx hb dX5_place_131 rfl (lv_at hl 5 rfl) ?_
                refine lv_iload_n hx hb dX5_place_132 rfl (lv_at hl 7 rfl) ?_
                refine lv_iload hx hb dX5_place_133 (lv_at hl 2 rfl) ?_
                refine lv_iload hx hb dX5_place_135 (lv_at hl 0 rfl) ?_
                refine lv_aload_n hx hb dX5_place_137 rfl (lv_at hl 6 rfl) ?_
                obtain ⟨z138, e_138, h⟩ := bd_s h
                refine cr_i (va_runV (As := [.int x3, .int z26, .int v9_116, .ref (aT 0)]) (rest := [.ref (aT 0), .ref (aP 0), .ref (aE 0)]) ⟨hx, hb, hml, hown, hts⟩ (c_X1_part l D g aP aT p_cubes p_steps p_weights p_actions p_ranks t_conditions t_cases t_rules t_defaultAction t_sizes t_strides t_costs t_weights t_sets t_actions t_rulesWith x3 z26 v9_116 z138 e_138) (cwV 4 hts gX5_place_X1_part rfl rfl rfl ⟨rfl, pd_X1_part⟩ ⟨Nat.le_trans (Nat.le_of_ble_eq_true rfl : 0 + 1 ≤ 4) (Nat.le_add_right _ _), Nat.le_trans (Nat.le_of_ble_eq_true rfl : 8 + (5 + 11) + 0 ≤ 90) (Nat.le_add_right _ _)⟩) (pr_v hK (hP.sub (ws' := (wX1 g aP p_cubes p_steps p_weights p_actions p_ranks ++ (wX4 g aT t_conditions t_cases t_rules t_defaultAction t_sizes t_strides t_costs t_weights t_sets t_actions t_rulesWith))) [8, 9, 10, 11, 12, 13, 14, 15, 16, 17, 18, 19, 20] rfl) (q0 := 0) (ci := 1) rfl rfl rfl) rfl rfl hl.1 rfl (lv_room (Nat.le_of_ble_eq_true rfl)) dX5_place_138 ⟨Nat.zero_le _, Nat.zero_le _⟩) ?_
                refine lv_iload hx hb dX5_place_141 (lv_at hl 8 rfl) ?_
                refine lv_iconst (v := 1) hx hb dX5_place_143 (by decide) ?_
                refine lv_iadd hx hb dX5_place_144 ?_
                refine lv_iload hx hb dX5_place_145 (lv_at hl 1 rfl) ?_
                obtain ⟨w147_0, w147_1, w147_2, w147_3, w147_4, w147_5, e_147, h⟩ := bd6_s h
                refine cm_v (ws := (wX5 g aE e_count_116 e_worst_116 e_expected e_classCount e_tests_116 e_actions_116 e_extents_116 e_depths_116 e_classes e_lowest e_leafClasses ++ (wX1 g aP p_cubes p_steps p_weights p_actions p_ranks ++ (wX4 g aT t_conditions t_cases t_rules t_defaultAction t_sizes t_strides t_costs t_weights t_sets t_actions t_rulesWith)))) (isC := [0, 1, 2, 3, 4, 5, 6, 7, 8, 9, 10, 11, 12, 13, 14, 15, 16, 17, 18, 19, 20]) (va_runV (As := [.ref (aP 0), .ref (aT 0), .int z138, .int (x4 + (1 : Int32)), .int (x5 + z109)]) (rest := []) ⟨hx, hb, hml, hown, hts⟩ (ih l H.size D g aE aP aT e_count_116 e_worst_116 e_expected e_classCount e_tests_116 e_actions_116 e_extents_116 e_depths_116 e_classes e_lowest e_leafClasses p_cubes p_steps p_weights p_actions p_ranks t_conditions t_cases t_rules t_defaultAction t_sizes t_strides t_costs t_weights t_sets t_actions t_rulesWith z138 (x4 + (1 : Int32)) (x5 + z109) w147_0 w147_1 w147_2 w147_3 w147_4 w147_5 e_147) (cwV 5 hts gX5_place_X5_place rfl rfl rfl ⟨rfl, pd_X5_place⟩ ⟨Nat.le_refl _, hlo⟩) (pw_v hK hP hD (q0 := 0) (ci := 5) rfl rfl rfl) rfl rfl hl.1 rfl (lv_room (Nat.le_of_ble_eq_true rfl)) dX5_place_147 ⟨Nat.zero_le _, Nat.zero_le _⟩) hP hD hS hA rfl [] (wr := []) rfl (by decide) (by decide) [0, 1, 2, 3, 4, 5, 6, 7, 8, 9, 10, 11, 12, 13, 14, 15, 16, 17, 18, 19, 20] (w2 := (wX5 g aE w147_0 w147_1 e_expected e_classCount w147_2 w147_3 w147_4 w147_5 e_classes e_lowest e_leafClasses ++ (wX1 g aP p_cubes p_steps p_weights p_actions p_ranks ++ (wX4 g aT t_conditions t_cases t_rules t_defaultAction t_sizes t_strides t_costs t_weights t_sets t_actions t_rulesWith)))) rfl (by decide) (fun H locs hP hD hS => ?_)
                refine lv_iinc (v := (v9_116 + 1)) (lv' := [(9, .int (v9_116 + 1)), (8, .int (x5 + z109)), (7, .int z26), (6, .int e_count), (0, .ref (aE 0)), (1, .ref (aP 0)), (2, .ref (aT 0)), (3, .int x3), (4, .int x4)]) hx hb dX5_place_150 hl (k := 0) rfl rfl (by decide) rfl (fun ls hl => ?_)
                refine lv_goto (tgt := 116) hx hb dX5_place_153 (by decide) ?_
                replace h := Option.some.inj h
                subst h
                exact ih1 (v9_116 + 1) w147_0 w147_1 w147_2 w147_3 w147_4 w147_5 H locs hP hD hS (wk_l k1) ls (lv_sub hl [0, 1, 2, 3, 4, 5, 6, 7, 8] rfl)
          exact lp116 5000 (0 : Int32) (e_count + (1 : Int32)) (if e_worst < x5 then x5 else e_worst) (upd e_tests e_count.toNatClampNeg z26) (upd e_actions e_count.toNatClampNeg (-1 : Int32)) e_extents (upd e_depths e_count.toNatClampNeg x4) H locs hP hD hS h ls (lv_sub hl [0, 1, 2, 3, 4, 5, 6, 7, 8] rfl)
        · replace h := ite_t c59 h
          refine lv_aload_n hx hb dX5_place_62 rfl (lv_at hl 3 rfl) ?_
          refine va_get (D := D) (ci := 1) (v := .ref (aP 3)) (C := RX1) (T := TX1) (N := 5) hx hb hts hh14 hown hK.1 hP 8 rfl rfl 3 (by decide) hh15 (fun _ h9 => h9) rfl dX5_place_63 ?_
          refine lv_iload_n hx hb dX5_place_66 rfl (lv_at hl 5 rfl) ?_
          have iz67 := rd_in h
          refine va_iald hx hb hK.1 hP 11 0 rfl rfl (rd_in h) dX5_place_67 (lv_topi (fun z67 ez67 => ?_))
          replace h := rd_k h ez67
          refine lv_goto (tgt := 72) hx hb dX5_place_68 (by decide) ?_
          refine va_iast hx hb hK.1 hP hD hS 2 0 rfl rfl ib49 dX5_place_72 (fun H locs hP hD hS => ?_)
          replace hP : va_P D vwCl (wX5 g aE (e_count + (1 : Int32)) e_worst e_expected e_classCount (upd e_tests e_count.toNatClampNeg z26) (upd e_actions e_count.toNatClampNeg z67) e_extents e_depths e_classes e_lowest e_leafClasses ++ (wX1 g aP p_cubes p_steps p_weights p_actions p_ranks ++ (wX4 g aT t_conditions t_cases t_rules t_defaultAction t_sizes t_strides t_costs t_weights t_sets t_actions t_rulesWith))) H := hP
          replace hD : va_D (va_A (wX5 g aE e_count e_worst e_expected e_classCount e_tests e_actions e_extents e_depths e_classes e_lowest e_leafClasses ++ (wX1 g aP p_cubes p_steps p_weights p_actions p_ranks ++ (wX4 g aT t_conditions t_cases t_rules t_defaultAction t_sizes t_strides t_costs t_weights t_sets t_actions t_rulesWith))) s.heap.size) (wX5 g aE (e_count + (1 : Int32)) e_worst e_expected e_classCount (upd e_tests e_count.toNatClampNeg z26) (upd e_actions e_count.toNatClampNeg z67) e_extents e_depths e_classes e_lowest e_leafClasses ++ (wX1 g aP p_cubes p_steps p_weights p_actions p_ranks ++ (wX4 g aT t_conditions t_cases t_rules t_defaultAction t_sizes t_strides t_costs t_weights t_sets t_actions t_rulesWith))) := hD
          refine lv_aload_n hx hb dX5_place_73 rfl (lv_at hl 2 rfl) ?_
          refine va_get (D := D) (ci := 5) (v := .ref (aE 4)) (C := RX5) (T := TX5) (N := 11) hx hb hts hh0 hown hK.1 hP 0 rfl rfl 7 (by decide) hh4 (fun _ h9 => h9) rfl dX5_place_74 ?_
          refine lv_iload hx hb dX5_place_77 (lv_at hl 1 rfl) ?_
          refine lv_iload hx hb dX5_place_79 (lv_at hl 6 rfl) ?_
          refine va_iast hx hb hK.1 hP hD hS 4 0 rfl rfl ib49 dX5_place_81 (fun H locs hP hD hS => ?_)
          replace hP : va_P D vwCl (wX5 g aE (e_count + (1 : Int32)) e_worst e_expected e_classCount (upd e_tests e_count.toNatClampNeg z26) (upd e_actions e_count.toNatClampNeg z67) e_extents (upd e_depths e_count.toNatClampNeg x4) e_classes e_lowest e_leafClasses ++ (wX1 g aP p_cubes p_steps p_weights p_actions p_ranks ++ (wX4 g aT t_conditions t_cases t_rules t_defaultAction t_sizes t_strides t_costs t_weights t_sets t_actions t_rulesWith))) H := hP
          replace hD : va_D (va_A (wX5 g aE e_count e_worst e_expected e_classCount e_tests e_actions e_extents e_depths e_classes e_lowest e_leafClasses ++ (wX1 g aP p_cubes p_steps p_weights p_actions p_ranks ++ (wX4 g aT t_conditions t_cases t_rules t_defaultAction t_sizes t_strides t_costs t_weights t_sets t_actions t_rulesWith))) s.heap.size) (wX5 g aE (e_count + (1 : Int32)) e_worst e_expected e_classCount (upd e_tests e_count.toNatClampNeg z26) (upd e_actions e_count.toNatClampNeg z67) e_extents (upd e_depths e_count.toNatClampNeg x4) e_classes e_lowest e_leafClasses ++ (wX1 g aP p_cubes p_steps p_weights p_actions p_ranks ++ (wX4 g aT t_conditions t_cases t_rules t_defaultAction t_sizes t_strides t_costs t_weights t_sets t_actions t_rulesWith))) := hD
          refine lv_aload_n hx hb dX5_place_82 rfl (lv_at hl 2 rfl) ?_
          refine lv_aload_n hx hb dX5_place_83 rfl (lv_at hl 2 rfl) ?_
          refine va_get (D := D) (ci := 5) (v := .int e_worst) (C := RX5) (T := TX5) (N := 11) hx hb hts hh0 hown hK.1 hP 0 rfl rfl 1 (by decide) hh5 (fun _ h9 => h9) rfl dX5_place_84 ?_
          refine lv_iload hx hb dX5_place_87 (lv_at hl 7 rfl) ?_
          refine va_mmax hx hb (hml.trans hl.1.symm) hown hh6 hh7 hh8 hh9 (Nat.le_trans (Nat.le_of_ble_eq_true rfl : 1 ≤ 4) (Nat.le_add_right _ _)) (Nat.le_trans (Nat.le_of_ble_eq_true rfl : 1 + 13 ≤ 90) (Nat.le_add_right _ _)) (Nat.zero_le _) (Nat.zero_le _) dX5_place_89 ?_
          refine va_put (D := D) (ci := 5) (v := .int (if e_worst < x5 then x5 else e_worst)) (ty := .int) (C := RX5) (T := TX5) (N := 11) hx hb hts hh0 tyX5 tyX5_ok nmX5 hown hK.1 hP hD hS 0 rfl rfl 1 (by decide) hh5 (fun _ h9 => h9) rfl (by decide +kernel) rfl rfl (Nat.le_of_ble_eq_true rfl) dX5_place_92 (fun H locs hP hD hS => ?_)
          replace hP : va_P D vwCl (wX5 g aE (e_count + (1 : Int32)) (if e_worst < x5 then x5 else e_worst) e_expected e_classCount (upd e_tests e_count.toNatClampNeg z26) (upd e_actions e_count.toNatClampNeg z67) e_extents (upd e_depths e_count.toNatClampNeg x4) e_classes e_lowest e_leafClasses ++ (wX1 g aP p_cubes p_steps p_weights p_actions p_ranks ++ (wX4 g aT t_conditions t_cases t_rules t_defaultAction t_sizes t_strides t_costs t_weights t_sets t_actions t_rulesWith))) H := hP
          replace hD : va_D (va_A (wX5 g aE e_count e_worst e_expected e_classCount e_tests e_actions e_extents e_depths e_classes e_lowest e_leafClasses ++ (wX1 g aP p_cubes p_steps p_weights p_actions p_ranks ++ (wX4 g aT t_conditions t_cases t_rules t_defaultAction t_sizes t_strides t_costs t_weights t_sets t_actions t_rulesWith))) s.heap.size) (wX5 g aE (e_count + (1 : Int32)) (if e_worst < x5 then x5 else e_worst) e_expected e_classCount (upd e_tests e_count.toNatClampNeg z26) (upd e_actions e_count.toNatClampNeg z67) e_extents (upd e_depths e_count.toNatClampNeg x4) e_classes e_lowest e_leafClasses ++ (wX1 g aP p_cubes p_steps p_weights p_actions p_ranks ++ (wX4 g aT t_conditions t_cases t_rules t_defaultAction t_sizes t_strides t_costs t_weights t_sets t_actions t_rulesWith))) := hD
          refine lv_iload hx hb dX5_place_95 (lv_at hl 0 rfl) ?_
          refine lv_iconst (v := -1) hx hb dX5_place_97 (by decide) ?_
          refine lv_icmp_eq (tgt := 156) hx hb dX5_place_98 (by decide) (fun _ => ?_) (fun q => absurd c59 q)
          refine lv_aload_n hx hb dX5_place_156 rfl (lv_at hl 2 rfl) ?_
          refine va_get (D := D) (ci := 5) (v := .ref (aE 3)) (C := RX5) (T := TX5) (N := 11) hx hb hts hh0 hown hK.1 hP 0 rfl rfl 6 (by decide) hh13 (fun _ h9 => h9) rfl dX5_place_157 ?_
          refine lv_iload hx hb dX5_place_160 (lv_at hl 1 rfl) ?_
          refine lv_aload_n hx hb dX5_place_162 rfl (lv_at hl 2 rfl) ?_
          refine va_get (D := D) (ci := 5) (v := .int (e_count + (1 : Int32))) (C := RX5) (T := TX5) (N := 11) hx hb hts hh0 hown hK.1 hP 0 rfl rfl 0 (by decide) hh1 (fun _ h9 => h9) rfl dX5_place_163 ?_
          refine lv_iload hx hb dX5_place_166 (lv_at hl 1 rfl) ?_
          refine lv_isub hx hb dX5_place_168 ?_
          refine va_iast hx hb hK.1 hP hD hS 3 0 rfl rfl ib49 dX5_place_169 (fun H locs hP hD hS => ?_)
          replace hP : va_P D vwCl (wX5 g aE (e_count + (1 : Int32)) (if e_worst < x5 then x5 else e_worst) e_expected e_classCount (upd e_tests e_count.toNatClampNeg z26) (upd e_actions e_count.toNatClampNeg z67) (upd e_extents e_count.toNatClampNeg ((e_count + (1 : Int32)) - e_count)) (upd e_depths e_count.toNatClampNeg x4) e_classes e_lowest e_leafClasses ++ (wX1 g aP p_cubes p_steps p_weights p_actions p_ranks ++ (wX4 g aT t_conditions t_cases t_rules t_defaultAction t_sizes t_strides t_costs t_weights t_sets t_actions t_rulesWith))) H := hP
          replace hD : va_D (va_A (wX5 g aE e_count e_worst e_expected e_classCount e_tests e_actions e_extents e_depths e_classes e_lowest e_leafClasses ++ (wX1 g aP p_cubes p_steps p_weights p_actions p_ranks ++ (wX4 g aT t_conditions t_cases t_rules t_defaultAction t_sizes t_strides t_costs t_weights t_sets t_actions t_rulesWith))) s.heap.size) (wX5 g aE (e_count + (1 : Int32)) (if e_worst < x5 then x5 else e_worst) e_expected e_classCount (upd e_tests e_count.toNatClampNeg z26) (upd e_actions e_count.toNatClampNeg z67) (upd e_extents e_count.toNatClampNeg ((e_count + (1 : Int32)) - e_count)) (upd e_depths e_count.toNatClampNeg x4) e_classes e_lowest e_leafClasses ++ (wX1 g aP p_cubes p_steps p_weights p_actions p_ranks ++ (wX4 g aT t_conditions t_cases t_rules t_defaultAction t_sizes t_strides t_costs t_weights t_sets t_actions t_rulesWith))) := hD
          replace h := Option.some.inj h
          have hj0 := (Prod.mk.inj h).1
          have hg0 := (Prod.mk.inj h).2
          have hj1 := (Prod.mk.inj hg0).1
          have hg1 := (Prod.mk.inj hg0).2
          have hj2 := (Prod.mk.inj hg1).1
          have hg2 := (Prod.mk.inj hg1).2
          have hj3 := (Prod.mk.inj hg2).1
          have hg3 := (Prod.mk.inj hg2).2
          have hj4 := (Prod.mk.inj hg3).1
          have hg4 := (Prod.mk.inj hg3).2
          clear hg0
          clear hg1
          clear hg2
          clear hg3
          subst hj0
          subst hj1
          subst hj2
          subst hj3
          subst hj4
          subst hg4
          exact W.vret hx hb hr (fun t ht hW => ⟨⟨(), rfl, trivial, by rw [ht]; exact hP, hD⟩, hS.F ht⟩) hS.2.2 dX5_place_170
      · replace h := ite_f c13 h
        replace h := Option.some.inj h
        have hj0 := (Prod.mk.inj h).1
        have hg0 := (Prod.mk.inj h).2
        have hj1 := (Prod.mk.inj hg0).1
        have hg1 := (Prod.mk.inj hg0).2
        have hj2 := (Prod.mk.inj hg1).1
        have hg2 := (Prod.mk.inj hg1).2
        have hj3 := (Prod.mk.inj hg2).1
        have hg3 := (Prod.mk.inj hg2).2
        have hj4 := (Prod.mk.inj hg3).1
        have hg4 := (Prod.mk.inj hg3).2
        clear hg0
        clear hg1
        clear hg2
        clear hg3
        subst hj0
        subst hj1
        subst hj2
        subst hj3
        subst hj4
        subst hg4
        exact W.vret hx hb hr (fun t ht hW => ⟨⟨(), rfl, trivial, by rw [ht]; exact hP, hD⟩, hS.F ht⟩) hS.2.2 dX5_place_16
theorem pd_X5_hasNode : yX5_hasNode.cls ≠ "java/lang/invoke/MethodHandle" ∧ yX5_hasNode.cls ≠ "java/lang/invoke/VarHandle" ∧ (parseMethodDescriptor yX5_hasNode.desc).map (fun d => d.parameters.length) = some 1 := by decide +kernel
def f_X5_hasNode (e_count : Int32) (x1 : Int32) : Option (Bool) :=
  (if x1 < (0 : Int32) then (some false) else (if e_count ≤ x1 then (some false) else (some true)))
set_option maxHeartbeats 4000000 in
set_option maxRecDepth 100000 in
theorem c_X5_hasNode (l : Launch) (D : va_G) (g : Nat → ClassId) (aE : Nat → Nat) (e_count : Int32) (e_worst : Int32) (e_expected : Int64) (e_classCount : Int32) (e_tests : Nat → Int32) (e_actions : Nat → Int32) (e_extents : Nat → Int32) (e_depths : Nat → Int32) (e_classes : Nat → Int32) (e_lowest : Nat → Int32) (e_leafClasses : Nat → Int32) (x1 : Int32) (r : Bool) (hf : f_X5_hasNode e_count x1 = some r) : CR l yX5_hasNode wsX5_hasNode 0 0 D g [.ref (aE 0), .int x1] (wX5 g aE e_count e_worst e_expected e_classCount e_tests e_actions e_extents e_depths e_classes e_lowest e_leafClasses) (QRi (bI r)) := by
  refine Met.ofW (cc := cX5_hasNode) (maxL := 2) (ret := (some .boolean)) (by decide) rfl ?_
  intro p e s m args below meth c s₁ B hml hv
  obtain ⟨rfl, hP, hK⟩ := hv
  have hx := B.exec
  have hb := B.bytes
  have hr := B.returns
  have hts := atoms_spec (ws := wsX5_hasNode) B.pre
  have hown : s.vm.findClass RX5 = some m.cls := findClass_of_methodNamed B.named
  have hlocks := B.notSynchronized
  have hh0 := (show ∀ w ∈ wsX50, w ∈ wsX5_hasNode from by decide +kernel)
  have hh1 := hts (.fieldLink RX5 33 "DecisionTableCompiler$Tree" "count" "I") (by decide +kernel)
  have hl := lv_entry ([.ref (aE 0), .int x1]) (n := 2) (Nat.le_of_ble_eq_true rfl)
  rw [lg_entry_eq]
  generalize (lg_sl ([.ref (aE 0), .int x1]) ++ List.replicate (2 - (lg_sl ([.ref (aE 0), .int x1])).length) Slot.unset).toArray = ls at hl ⊢
  replace hl : lv_has ls 2 [(0, .ref (aE 0)), (1, .int x1)] := hl
  have h := hf
  unfold f_X5_hasNode at h
  refine lv_iload_n hx hb dX5_hasNode_0 rfl (lv_at hl 1 rfl) ?_
  refine lv_if_lt (tgt := 16) hx hb dX5_hasNode_1 (by decide) (fun c1 => ?_) (fun c1 => ?_)
  · replace h := ite_t c1 h
    refine lv_iconst (v := 0) hx hb dX5_hasNode_16 (by decide) ?_
    replace h := Option.some.inj h
    subst h
    exact W.zret hx hb hr rfl (fun t ht hW => ⟨_, rfl, rfl, ht⟩) (fun q hq => by cases hq) dX5_hasNode_17
  · replace h := ite_f c1 h
    refine lv_iload_n hx hb dX5_hasNode_4 rfl (lv_at hl 1 rfl) ?_
    refine lv_aload_n hx hb dX5_hasNode_5 rfl (lv_at hl 0 rfl) ?_
    refine va_get (D := D) (ci := 5) (v := .int e_count) (C := RX5) (T := TX5) (N := 11) hx hb hts hh0 hown hK.1 hP 0 rfl rfl 0 (by decide) hh1 (fun _ h9 => h9) rfl dX5_hasNode_6 ?_
    refine lv_icmp_ge (tgt := 16) hx hb dX5_hasNode_9 (by decide) (fun c9 => ?_) (fun c9 => ?_)
    · replace h := ite_t c9 h
      refine lv_iconst (v := 0) hx hb dX5_hasNode_16 (by decide) ?_
      replace h := Option.some.inj h
      subst h
      exact W.zret hx hb hr rfl (fun t ht hW => ⟨_, rfl, rfl, ht⟩) (fun q hq => by cases hq) dX5_hasNode_17
    · replace h := ite_f c9 h
      refine lv_iconst (v := 1) hx hb dX5_hasNode_12 (by decide) ?_
      refine lv_goto (tgt := 17) hx hb dX5_hasNode_13 (by decide) ?_
      replace h := Option.some.inj h
      subst h
      exact W.zret hx hb hr rfl (fun t ht hW => ⟨_, rfl, rfl, ht⟩) (fun q hq => by cases hq) dX5_hasNode_17
theorem pd_X5_sameTest : yX5_sameTest.cls ≠ "java/lang/invoke/MethodHandle" ∧ yX5_sameTest.cls ≠ "java/lang/invoke/VarHandle" ∧ (parseMethodDescriptor yX5_sameTest.desc).map (fun d => d.parameters.length) = some 3 := by decide +kernel
def f_X5_sameTest_s45 (e_count : Int32) (e_extents : Nat → Int32) (e_classes : Nat → Int32) (t_sizes : Nat → Int32) (z5 : Int32) (v4_45 : Int32) (v5_45 : Int32) (v6_45 : Int32) : Option ((Int32 × Int32 × Int32) ⊕ (Bool)) :=
  (rd 4 t_sizes z5 fun z57 => (if z57 ≤ v6_45 then (some (.inr true)) else (Option.bind (f_X5_hasNode e_count v4_45) fun z64 => (if z64 = true then (Option.bind (f_X5_hasNode e_count v5_45) fun z73 => (if z73 = true then (rd 781 e_classes v4_45 fun z85 => (rd 781 e_classes v5_45 fun z92 => (if z85 = z92 then (nm (e_extents v4_45.toNatClampNeg) fun z106 => (nm (e_extents v5_45.toNatClampNeg) fun z118 => (some (.inl ((v4_45 + z106), (v5_45 + z118), (v6_45 + 1)))))) else (some (.inr false))))) else (some (.inr false)))) else (some (.inr false))))))
def f_X5_sameTest (e_count : Int32) (e_tests : Nat → Int32) (e_extents : Nat → Int32) (e_classes : Nat → Int32) (t_sizes : Nat → Int32) (x1 : Int32) (x2 : Int32) : Option (Bool) :=
  (rd 781 e_tests x1 fun z5 => (rd 781 e_tests x2 fun z11 => (if z5 = z11 then (nm (e_extents x1.toNatClampNeg) fun z20 => (nm (e_extents x2.toNatClampNeg) fun z26 => (if z20 = z26 then (wl (fun q => f_X5_sameTest_s45 e_count e_extents e_classes t_sizes z5 q.1 q.2.1 q.2.2) 5000 ((x1 + (1 : Int32)), (x2 + (1 : Int32)), (0 : Int32))) else (some false)))) else (some false))))
set_option maxHeartbeats 4000000 in
set_option maxRecDepth 100000 in
theorem c_X5_sameTest (l : Launch) (D : va_G) (g : Nat → ClassId) (aE aT : Nat → Nat) (e_count : Int32) (e_worst : Int32) (e_expected : Int64) (e_classCount : Int32) (e_tests : Nat → Int32) (e_actions : Nat → Int32) (e_extents : Nat → Int32) (e_depths : Nat → Int32) (e_classes : Nat → Int32) (e_lowest : Nat → Int32) (e_leafClasses : Nat → Int32) (t_conditions : Int32) (t_cases : Int32) (t_rules : Int32) (t_defaultAction : Int32) (t_sizes : Nat → Int32) (t_strides : Nat → Int32) (t_costs : Nat → Int32) (t_weights : Nat → Int32) (t_sets : Nat → Int32) (t_actions : Nat → Int32) (t_rulesWith : Nat → Int32) (x1 : Int32) (x2 : Int32) (r : Bool) (hf : f_X5_sameTest e_count e_tests e_extents e_classes t_sizes x1 x2 = some r) : CR l yX5_sameTest wsX5_sameTest 1 21 D g [.ref (aE 0), .int x1, .int x2, .ref (aT 0)] (wX5 g aE e_count e_worst e_expected e_classCount e_tests e_actions e_extents e_depths e_classes e_lowest e_leafClasses ++ (wX4 g aT t_conditions t_cases t_rules t_defaultAction t_sizes t_strides t_costs t_weights t_sets t_actions t_rulesWith)) (QRi (bI r)) := by
  refine Met.ofW (cc := cX5_sameTest) (maxL := 7) (ret := (some .boolean)) (by decide) rfl ?_
  intro p e s m args below meth c s₁ B hml hv
  obtain ⟨rfl, hP, hK⟩ := hv
  have hx := B.exec
  have hb := B.bytes
  have hr := B.returns
  have hts := atoms_spec (ws := wsX5_sameTest) B.pre
  have hown : s.vm.findClass RX5 = some m.cls := findClass_of_methodNamed B.named
  have hlocks := B.notSynchronized
  have hh0 := (show ∀ w ∈ wsX50, w ∈ wsX5_sameTest from by decide +kernel)
  have hh1 := hts (.fieldLink RX5 9 "DecisionTableCompiler$Tree" "tests" "[I") (by decide +kernel)
  have hh2 := hts (.fieldLink RX5 18 "DecisionTableCompiler$Tree" "extents" "[I") (by decide +kernel)
  have hh3 := (show ∀ w ∈ wsX40, w ∈ wsX5_sameTest from by decide +kernel)
  have hh4 := hts (.fieldLink RX5 78 "DecisionTableCompiler$Table" "sizes" "[I") (by decide +kernel)
  have hh5 := hts (.fieldLink RX5 24 "DecisionTableCompiler$Tree" "classes" "[I") (by decide +kernel)
  have hl := lv_entry ([.ref (aE 0), .int x1, .int x2, .ref (aT 0)]) (n := 7) (Nat.le_of_ble_eq_true rfl)
  rw [lg_entry_eq]
  generalize (lg_sl ([.ref (aE 0), .int x1, .int x2, .ref (aT 0)]) ++ List.replicate (7 - (lg_sl ([.ref (aE 0), .int x1, .int x2, .ref (aT 0)])).length) Slot.unset).toArray = ls at hl ⊢
  replace hl : lv_has ls 7 [(0, .ref (aE 0)), (1, .int x1), (2, .int x2), (3, .ref (aT 0))] := hl
  have h := hf
  unfold f_X5_sameTest at h
  refine lv_aload_n hx hb dX5_sameTest_0 rfl (lv_at hl 0 rfl) ?_
  refine va_get (D := D) (ci := 5) (v := .ref (aE 1)) (C := RX5) (T := TX5) (N := 11) hx hb hts hh0 hown hK.1 hP 0 rfl rfl 4 (by decide) hh1 (fun _ h9 => h9) rfl dX5_sameTest_1 ?_
  refine lv_iload_n hx hb dX5_sameTest_4 rfl (lv_at hl 1 rfl) ?_
  have iz5 := rd_in h
  refine va_iald hx hb hK.1 hP 1 0 rfl rfl (rd_in h) dX5_sameTest_5 (lv_topi (fun z5 ez5 => ?_))
  replace h := rd_k h ez5
  refine lv_aload_n hx hb dX5_sameTest_6 rfl (lv_at hl 0 rfl) ?_
  refine va_get (D := D) (ci := 5) (v := .ref (aE 1)) (C := RX5) (T := TX5) (N := 11) hx hb hts hh0 hown hK.1 hP 0 rfl rfl 4 (by decide) hh1 (fun _ h9 => h9) rfl dX5_sameTest_7 ?_
  refine lv_iload_n hx hb dX5_sameTest_10 rfl (lv_at hl 2 rfl) ?_
  have iz11 := rd_in h
  refine va_iald hx hb hK.1 hP 1 0 rfl rfl (rd_in h) dX5_sameTest_11 (lv_topi (fun z11 ez11 => ?_))
  replace h := rd_k h ez11
  refine lv_icmp_ne (tgt := 30) hx hb dX5_sameTest_12 (by decide) (fun c12 => ?_) (fun c12 => ?_)
  · replace h := ite_f c12 h
    refine lv_iconst (v := 0) hx hb dX5_sameTest_30 (by decide) ?_
    replace h := Option.some.inj h
    subst h
    exact W.zret hx hb hr rfl (fun t ht hW => ⟨_, rfl, rfl, ht⟩) (fun q hq => by cases hq) dX5_sameTest_31
  · replace h := ite_t c12 h
    refine lv_aload_n hx hb dX5_sameTest_15 rfl (lv_at hl 0 rfl) ?_
    refine va_get (D := D) (ci := 5) (v := .ref (aE 3)) (C := RX5) (T := TX5) (N := 11) hx hb hts hh0 hown hK.1 hP 0 rfl rfl 6 (by decide) hh2 (fun _ h9 => h9) rfl dX5_sameTest_16 ?_
    refine lv_iload_n hx hb dX5_sameTest_19 rfl (lv_at hl 1 rfl) ?_
    have iz20 := iz5
    refine va_iald hx hb hK.1 hP 3 0 rfl rfl iz20 dX5_sameTest_20 (lv_topi (fun z20 ez20 => ?_))
    replace h := nm_n h ez20
    refine lv_aload_n hx hb dX5_sameTest_21 rfl (lv_at hl 0 rfl) ?_
    refine va_get (D := D) (ci := 5) (v := .ref (aE 3)) (C := RX5) (T := TX5) (N := 11) hx hb hts hh0 hown hK.1 hP 0 rfl rfl 6 (by decide) hh2 (fun _ h9 => h9) rfl dX5_sameTest_22 ?_
    refine lv_iload_n hx hb dX5_sameTest_25 rfl (lv_at hl 2 rfl) ?_
    have iz26 := iz11
    refine va_iald hx hb hK.1 hP 3 0 rfl rfl iz26 dX5_sameTest_26 (lv_topi (fun z26 ez26 => ?_))
    replace h := nm_n h ez26
    refine lv_icmp_eq (tgt := 32) hx hb dX5_sameTest_27 (by decide) (fun c27 => ?_) (fun c27 => ?_)
    · replace h := ite_t c27 h
      refine lv_iload_n hx hb dX5_sameTest_32 rfl (lv_at hl 1 rfl) ?_
      refine lv_iconst (v := 1) hx hb dX5_sameTest_33 (by decide) ?_
      refine lv_iadd hx hb dX5_sameTest_34 ?_
      refine lv_istore (lv' := [(4, .int (x1 + (1 : Int32))), (0, .ref (aE 0)), (1, .int x1), (2, .int x2), (3, .ref (aT 0))]) hx hb dX5_sameTest_35 hl (by decide) rfl (fun ls hl => ?_)
      refine lv_iload_n hx hb dX5_sameTest_37 rfl (lv_at hl 3 rfl) ?_
      refine lv_iconst (v := 1) hx hb dX5_sameTest_38 (by decide) ?_
      refine lv_iadd hx hb dX5_sameTest_39 ?_
      refine lv_istore (lv' := [(5, .int (x2 + (1 : Int32))), (4, .int (x1 + (1 : Int32))), (0, .ref (aE 0)), (1, .int x1), (2, .int x2), (3, .ref (aT 0))]) hx hb dX5_sameTest_40 hl (by decide) rfl (fun ls hl => ?_)
      refine lv_iconst (v := 0) hx hb dX5_sameTest_42 (by decide) ?_
      refine lv_istore (lv' := [(6, .int (0 : Int32)), (5, .int (x2 + (1 : Int32))), (4, .int (x1 + (1 : Int32))), (0, .ref (aE 0)), (1, .int x1), (2, .int x2), (3, .ref (aT 0))]) hx hb dX5_sameTest_43 hl (by decide) rfl (fun ls hl => ?_)
      have lp45 : ∀ (n : Nat) (v4_45 : Int32) (v5_45 : Int32) (v6_45 : Int32), wl (fun q => f_X5_sameTest_s45 e_count e_extents e_classes t_sizes z5 q.1 q.2.1 q.2.2) n (v4_45, v5_45, v6_45) = some r → ∀ ls : Array Slot, lv_has ls 7 [(6, .int v6_45), (5, .int v5_45), (4, .int v4_45), (0, .ref (aE 0)), (1, .int x1), (3, .ref (aT 0))] → W p l e (headSpec wsX5_sameTest ({ frames := 1, cells := 0, slots := 0, locals := 21 })).room s m ([.ref (aE 0), .int x1, .int x2, .ref (aT 0)] : List Value).toArray below meth c s.heap [] 0 0 (MQ below (QRi (bI r)) ([.ref (aE 0), .int x1, .int x2, .ref (aT 0)] : List Value).toArray s 0 0 (fun _ => False)) (F0 m 45 ls []) := by
        intro n
        induction n with
        | zero =>
          intro v4_45 v5_45 v6_45 h
          exact wl_0 h
        | succ n ih1 =>
          intro v4_45 v5_45 v6_45 h ls hl
          obtain ⟨o1, h, k1⟩ := wl_s h
          replace h : f_X5_sameTest_s45 e_count e_extents e_classes t_sizes z5 v4_45 v5_45 v6_45 = some o1 := h
          unfold f_X5_sameTest_s45 at h
          refine lv_iload hx hb dX5_sameTest_45 (lv_at hl 0 rfl) ?_
          refine lv_aload_n hx hb dX5_sameTest_47 rfl (lv_at hl 5 rfl) ?_
          refine va_get (D := D) (ci := 4) (v := .ref (aT 1)) (C := RX4) (T := TX4) (N := 11) hx hb hts hh3 hown hK.1 hP 8 rfl rfl 4 (by decide) hh4 (fun _ h9 => h9) rfl dX5_sameTest_48 ?_
          refine lv_aload_n hx hb dX5_sameTest_51 rfl (lv_at hl 3 rfl) ?_
          refine va_get (D := D) (ci := 5) (v := .ref (aE 1)) (C := RX5) (T := TX5) (N := 11) hx hb hts hh0 hown hK.1 hP 0 rfl rfl 4 (by decide) hh1 (fun _ h9 => h9) rfl dX5_sameTest_52 ?_
          refine lv_iload_n hx hb dX5_sameTest_55 rfl (lv_at hl 4 rfl) ?_
          refine va_iald hx hb hK.1 hP 1 0 rfl rfl iz5 dX5_sameTest_56 (lv_topi (fun u56 eu56 => ?_))
          have eu : z5 = u56 := ez5.trans eu56.symm
          subst eu
          have iz57 := rd_in h
          refine va_iald hx hb hK.1 hP 9 0 rfl rfl (rd_in h) dX5_sameTest_57 (lv_topi (fun z57 ez57 => ?_))
          replace h := rd_k h ez57
          refine lv_icmp_ge (tgt := 128) hx hb dX5_sameTest_58 (by decide) (fun c58 => ?_) (fun c58 => ?_)
          · replace h := ite_t c58 h
            refine lv_iconst (v := 1) hx hb dX5_sameTest_128 (by decide) ?_
            replace h := Option.some.inj h
            subst h
            replace h := wk_r k1
            subst h
            exact W.zret hx hb hr rfl (fun t ht hW => ⟨_, rfl, rfl, ht⟩) (fun q hq => by cases hq) dX5_sameTest_129
          · replace h := ite_f c58 h
            refine lv_aload_n hx hb dX5_sameTest_61 rfl (lv_at hl 3 rfl) ?_
            refine lv_iload hx hb dX5_sameTest_62 (lv_at hl 2 rfl) ?_
            obtain ⟨z64, e_64, h⟩ := bd_s h
            refine cr_i (va_runV (As := [.int v4_45]) (rest := []) ⟨hx, hb, hml, hown, hts⟩ (c_X5_hasNode l D g aE e_count e_worst e_expected e_classCount e_tests e_actions e_extents e_depths e_classes e_lowest e_leafClasses v4_45 z64 e_64) (cwV 1 hts gX5_sameTest_X5_hasNode rfl rfl rfl ⟨rfl, pd_X5_hasNode⟩ ⟨Nat.le_of_ble_eq_true rfl, Nat.le_of_ble_eq_true rfl⟩) (pr_v hK (hP.sub (ws' := (wX5 g aE e_count e_worst e_expected e_classCount e_tests e_actions e_extents e_depths e_classes e_lowest e_leafClasses)) [0, 1, 2, 3, 4, 5, 6, 7] rfl) (q0 := 0) (ci := 5) rfl rfl rfl) rfl rfl hl.1 rfl (lv_room (Nat.le_of_ble_eq_true rfl)) dX5_sameTest_64 ⟨Nat.zero_le _, Nat.zero_le _⟩) ?_
            refine lb_eq (tgt := 96) hx hb dX5_sameTest_67 (by decide) (fun c67 => ?_) (fun c67 => ?_)
            · replace h := ite_t c67 h
              refine lv_aload_n hx hb dX5_sameTest_70 rfl (lv_at hl 3 rfl) ?_
              refine lv_iload hx hb dX5_sameTest_71 (lv_at hl 1 rfl) ?_
              obtain ⟨z73, e_73, h⟩ := bd_s h
              refine cr_i (va_runV (As := [.int v5_45]) (rest := []) ⟨hx, hb, hml, hown, hts⟩ (c_X5_hasNode l D g aE e_count e_worst e_expected e_classCount e_tests e_actions e_extents e_depths e_classes e_lowest e_leafClasses v5_45 z73 e_73) (cwV 1 hts gX5_sameTest_X5_hasNode rfl rfl rfl ⟨rfl, pd_X5_hasNode⟩ ⟨Nat.le_of_ble_eq_true rfl, Nat.le_of_ble_eq_true rfl⟩) (pr_v hK (hP.sub (ws' := (wX5 g aE e_count e_worst e_expected e_classCount e_tests e_actions e_extents e_depths e_classes e_lowest e_leafClasses)) [0, 1, 2, 3, 4, 5, 6, 7] rfl) (q0 := 0) (ci := 5) rfl rfl rfl) rfl rfl hl.1 rfl (lv_room (Nat.le_of_ble_eq_true rfl)) dX5_sameTest_73 ⟨Nat.zero_le _, Nat.zero_le _⟩) ?_
              refine lb_eq (tgt := 96) hx hb dX5_sameTest_76 (by decide) (fun c76 => ?_) (fun c76 => ?_)
              · replace h := ite_t c76 h
                refine lv_aload_n hx hb dX5_sameTest_79 rfl (lv_at hl 3 rfl) ?_
                refine va_get (D := D) (ci := 5) (v := .ref (aE 5)) (C := RX5) (T := TX5) (N := 11) hx hb hts hh0 hown hK.1 hP 0 rfl rfl 8 (by decide) hh5 (fun _ h9 => h9) rfl dX5_sameTest_80 ?_
                refine lv_iload hx hb dX5_sameTest_83 (lv_at hl 2 rfl) ?_
                have iz85 := rd_in h
                refine va_iald hx hb hK.1 hP 5 0 rfl rfl (rd_in h) dX5_sameTest_85 (lv_topi (fun z85 ez85 => ?_))
                replace h := rd_k h ez85
                refine lv_aload_n hx hb dX5_sameTest_86 rfl (lv_at hl 3 rfl) ?_
                refine va_get (D := D) (ci := 5) (v := .ref (aE 5)) (C := RX5) (T := TX5) (N := 11) hx hb hts hh0 hown hK.1 hP 0 rfl rfl 8 (by decide) hh5 (fun _ h9 => h9) rfl dX5_sameTest_87 ?_
                refine lv_iload hx hb dX5_sameTest_90 (lv_at hl 1 rfl) ?_
                have iz92 := rd_in h
                refine va_iald hx hb hK.1 hP 5 0 rfl rfl (rd_in h) dX5_sameTest_92 (lv_topi (fun z92 ez92 => ?_))
                replace h := rd_k h ez92
                refine lv_icmp_eq (tgt := 98) hx hb dX5_sameTest_93 (by decide) (fun c93 => ?_) (fun c93 => ?_)
                · replace h := ite_t c93 h
                  refine lv_iload hx hb dX5_sameTest_98 (lv_at hl 2 rfl) ?_
                  refine lv_aload_n hx hb dX5_sameTest_100 rfl (lv_at hl 3 rfl) ?_
                  refine va_get (D := D) (ci := 5) (v := .ref (aE 3)) (C := RX5) (T := TX5) (N := 11) hx hb hts hh0 hown hK.1 hP 0 rfl rfl 6 (by decide) hh2 (fun _ h9 => h9) rfl dX5_sameTest_101 ?_
                  refine lv_iload hx hb dX5_sameTest_104 (lv_at hl 2 rfl) ?_
                  have iz106 := iz85
                  refine va_iald hx hb hK.1 hP 3 0 rfl rfl iz106 dX5_sameTest_106 (lv_topi (fun z106 ez106 => ?_))
                  replace h := nm_n h ez106
                  refine lv_iadd hx hb dX5_sameTest_107 ?_
                  refine lv_istore (lv' := [(4, .int (v4_45 + z106)), (6, .int v6_45), (5, .int v5_45), (0, .ref (aE 0)), (1, .int x1), (3, .ref (aT 0))]) hx hb dX5_sameTest_108 hl (by decide) rfl (fun ls hl => ?_)
                  refine lv_iload hx hb dX5_sameTest_110 (lv_at hl 2 rfl) ?_
                  refine lv_aload_n hx hb dX5_sameTest_112 rfl (lv_at hl 3 rfl) ?_
                  refine va_get (D := D) (ci := 5) (v := .ref (aE 3)) (C := RX5) (T := TX5) (N := 11) hx hb hts hh0 hown hK.1 hP 0 rfl rfl 6 (by decide) hh2 (fun _ h9 => h9) rfl dX5_sameTest_113 ?_
                  refine lv_iload hx hb dX5_sameTest_116 (lv_at hl 2 rfl) ?_
                  have iz118 := iz92
                  refine va_iald hx hb hK.1 hP 3 0 rfl rfl iz118 dX5_sameTest_118 (lv_topi (fun z118 ez118 => ?_))
                  replace h := nm_n h ez118
                  refine lv_iadd hx hb dX5_sameTest_119 ?_
                  refine lv_istore (lv' := [(5, .int (v5_45 + z118)), (4, .int (v4_45 + z106)), (6, .int v6_45), (0, .ref (aE 0)), (1, .int x1), (3, .ref (aT 0))]) hx hb dX5_sameTest_120 hl (by decide) rfl (fun ls hl => ?_)
                  refine lv_iinc (v := (v6_45 + 1)) (lv' := [(6, .int (v6_45 + 1)), (5, .int (v5_45 + z118)), (4, .int (v4_45 + z106)), (0, .ref (aE 0)), (1, .int x1), (3, .ref (aT 0))]) hx hb dX5_sameTest_122 hl (k := 2) rfl rfl (by decide) rfl (fun ls hl => ?_)
                  refine lv_goto (tgt := 45) hx hb dX5_sameTest_125 (by decide) ?_
                  replace h := Option.some.inj h
                  subst h
                  exact ih1 (v4_45 + z106) (v5_45 + z118) (v6_45 + 1) (wk_l k1) ls (lv_sub hl [0, 1, 2, 3, 4, 5] rfl)
                · replace h := ite_f c93 h
                  refine lv_iconst (v := 0) hx hb dX5_sameTest_96 (by decide) ?_
                  replace h := Option.some.inj h
                  subst h
                  replace h := wk_r k1
                  subst h
                  exact W.zret hx hb hr rfl (fun t ht hW => ⟨_, rfl, rfl, ht⟩) (fun q hq => by cases hq) dX5_sameTest_97
              · replace h := ite_f c76 h
                refine lv_iconst (v := 0) hx hb dX5_sameTest_96 (by decide) ?_
                replace h := Option.some.inj h
                subst h
                replace h := wk_r k1
                subst h
                exact W.zret hx hb hr rfl (fun t ht hW => ⟨_, rfl, rfl, ht⟩) (fun q hq => by cases hq) dX5_sameTest_97
            · replace h := ite_f c67 h
              refine lv_iconst (v := 0) hx hb dX5_sameTest_96 (by decide) ?_
              replace h := Option.some.inj h
              subst h
              replace h := wk_r k1
              subst h
              exact W.zret hx hb hr rfl (fun t ht hW => ⟨_, rfl, rfl, ht⟩) (fun q hq => by cases hq) dX5_sameTest_97
      exact lp45 5000 (x1 + (1 : Int32)) (x2 + (1 : Int32)) (0 : Int32) h ls (lv_sub hl [0, 1, 2, 3, 4, 6] rfl)
    · replace h := ite_f c27 h
      refine lv_iconst (v := 0) hx hb dX5_sameTest_30 (by decide) ?_
      replace h := Option.some.inj h
      subst h
      exact W.zret hx hb hr rfl (fun t ht hW => ⟨_, rfl, rfl, ht⟩) (fun q hq => by cases hq) dX5_sameTest_31
theorem pd_X5_equalTest : yX5_equalTest.cls ≠ "java/lang/invoke/MethodHandle" ∧ yX5_equalTest.cls ≠ "java/lang/invoke/VarHandle" ∧ (parseMethodDescriptor yX5_equalTest.desc).map (fun d => d.parameters.length) = some 2 := by decide +kernel
def f_X5_equalTest_s2 (e_count : Int32) (e_classCount : Int32) (e_tests : Nat → Int32) (e_extents : Nat → Int32) (e_classes : Nat → Int32) (e_lowest : Nat → Int32) (t_sizes : Nat → Int32) (x1 : Int32) (v3_2 : Int32) : Option ((Int32) ⊕ (Int32)) :=
  (if e_classCount ≤ v3_2 then (some (.inr (-1 : Int32))) else (rd 167 e_lowest v3_2 fun z17 => (Option.bind (f_X5_sameTest e_count e_tests e_extents e_classes t_sizes x1 z17) fun z19 => (if z19 = true then (some (.inr v3_2)) else (some (.inl (v3_2 + 1)))))))
def f_X5_equalTest (e_count : Int32) (e_classCount : Int32) (e_tests : Nat → Int32) (e_extents : Nat → Int32) (e_classes : Nat → Int32) (e_lowest : Nat → Int32) (t_sizes : Nat → Int32) (x1 : Int32) : Option (Int32) :=
  (wl (fun q => f_X5_equalTest_s2 e_count e_classCount e_tests e_extents e_classes e_lowest t_sizes x1 q) 5000 (0 : Int32))
set_option maxHeartbeats 4000000 in
set_option maxRecDepth 100000 in
theorem c_X5_equalTest (l : Launch) (D : va_G) (g : Nat → ClassId) (aE aT : Nat → Nat) (e_count : Int32) (e_worst : Int32) (e_expected : Int64) (e_classCount : Int32) (e_tests : Nat → Int32) (e_actions : Nat → Int32) (e_extents : Nat → Int32) (e_depths : Nat → Int32) (e_classes : Nat → Int32) (e_lowest : Nat → Int32) (e_leafClasses : Nat → Int32) (t_conditions : Int32) (t_cases : Int32) (t_rules : Int32) (t_defaultAction : Int32) (t_sizes : Nat → Int32) (t_strides : Nat → Int32) (t_costs : Nat → Int32) (t_weights : Nat → Int32) (t_sets : Nat → Int32) (t_actions : Nat → Int32) (t_rulesWith : Nat → Int32) (x1 : Int32) (r : Int32) (hf : f_X5_equalTest e_count e_classCount e_tests e_extents e_classes e_lowest t_sizes x1 = some r) : CR l yX5_equalTest wsX5_equalTest 2 47 D g [.ref (aE 0), .int x1, .ref (aT 0)] (wX5 g aE e_count e_worst e_expected e_classCount e_tests e_actions e_extents e_depths e_classes e_lowest e_leafClasses ++ (wX4 g aT t_conditions t_cases t_rules t_defaultAction t_sizes t_strides t_costs t_weights t_sets t_actions t_rulesWith)) (QRi r) := by
  refine Met.ofW (cc := cX5_equalTest) (maxL := 4) (ret := (some .int)) (by decide) rfl ?_
  intro p e s m args below meth c s₁ B hml hv
  obtain ⟨rfl, hP, hK⟩ := hv
  have hx := B.exec
  have hb := B.bytes
  have hr := B.returns
  have hts := atoms_spec (ws := wsX5_equalTest) B.pre
  have hown : s.vm.findClass RX5 = some m.cls := findClass_of_methodNamed B.named
  have hlocks := B.notSynchronized
  have hh0 := (show ∀ w ∈ wsX50, w ∈ wsX5_equalTest from by decide +kernel)
  have hh1 := hts (.fieldLink RX5 95 "DecisionTableCompiler$Tree" "classCount" "I") (by decide +kernel)
  have hh2 := hts (.fieldLink RX5 27 "DecisionTableCompiler$Tree" "lowest" "[I") (by decide +kernel)
  have hl := lv_entry ([.ref (aE 0), .int x1, .ref (aT 0)]) (n := 4) (Nat.le_of_ble_eq_true rfl)
  rw [lg_entry_eq]
  generalize (lg_sl ([.ref (aE 0), .int x1, .ref (aT 0)]) ++ List.replicate (4 - (lg_sl ([.ref (aE 0), .int x1, .ref (aT 0)])).length) Slot.unset).toArray = ls at hl ⊢
  replace hl : lv_has ls 4 [(0, .ref (aE 0)), (1, .int x1), (2, .ref (aT 0))] := hl
  have h := hf
  unfold f_X5_equalTest at h
  refine lv_iconst (v := 0) hx hb dX5_equalTest_0 (by decide) ?_
  refine lv_istore_n (lv' := [(3, .int (0 : Int32)), (0, .ref (aE 0)), (1, .int x1), (2, .ref (aT 0))]) hx hb dX5_equalTest_1 rfl hl (by decide) rfl (fun ls hl => ?_)
  have lp2 : ∀ (n : Nat) (v3_2 : Int32), wl (fun q => f_X5_equalTest_s2 e_count e_classCount e_tests e_extents e_classes e_lowest t_sizes x1 q) n v3_2 = some r → ∀ ls : Array Slot, lv_has ls 4 [(3, .int v3_2), (0, .ref (aE 0)), (1, .int x1), (2, .ref (aT 0))] → W p l e (headSpec wsX5_equalTest ({ frames := 2, cells := 0, slots := 0, locals := 47 })).room s m ([.ref (aE 0), .int x1, .ref (aT 0)] : List Value).toArray below meth c s.heap [] 0 0 (MQ below (QRi r) ([.ref (aE 0), .int x1, .ref (aT 0)] : List Value).toArray s 0 0 (fun _ => False)) (F0 m 2 ls []) := by
    intro n
    induction n with
    | zero =>
      intro v3_2 h
      exact wl_0 h
    | succ n ih1 =>
      intro v3_2 h ls hl
      obtain ⟨o1, h, k1⟩ := wl_s h
      replace h : f_X5_equalTest_s2 e_count e_classCount e_tests e_extents e_classes e_lowest t_sizes x1 v3_2 = some o1 := h
      unfold f_X5_equalTest_s2 at h
      refine lv_iload_n hx hb dX5_equalTest_2 rfl (lv_at hl 0 rfl) ?_
      refine lv_aload_n hx hb dX5_equalTest_3 rfl (lv_at hl 1 rfl) ?_
      refine va_get (D := D) (ci := 5) (v := .int e_classCount) (C := RX5) (T := TX5) (N := 11) hx hb hts hh0 hown hK.1 hP 0 rfl rfl 3 (by decide) hh1 (fun _ h9 => h9) rfl dX5_equalTest_4 ?_
      refine lv_icmp_ge (tgt := 33) hx hb dX5_equalTest_7 (by decide) (fun c7 => ?_) (fun c7 => ?_)
      · replace h := ite_t c7 h
        refine lv_iconst (v := -1) hx hb dX5_equalTest_33 (by decide) ?_
        replace h := Option.some.inj h
        subst h
        replace h := wk_r k1
        subst h
        exact W.iret hx hb hr (fun t ht hW => ⟨_, rfl, rfl, ht⟩) (fun q hq => by cases hq) dX5_equalTest_34
      · replace h := ite_f c7 h
        refine lv_aload_n hx hb dX5_equalTest_10 rfl (lv_at hl 1 rfl) ?_
        refine lv_iload_n hx hb dX5_equalTest_11 rfl (lv_at hl 2 rfl) ?_
        refine lv_aload_n hx hb dX5_equalTest_12 rfl (lv_at hl 1 rfl) ?_
        refine va_get (D := D) (ci := 5) (v := .ref (aE 6)) (C := RX5) (T := TX5) (N := 11) hx hb hts hh0 hown hK.1 hP 0 rfl rfl 9 (by decide) hh2 (fun _ h9 => h9) rfl dX5_equalTest_13 ?_
        refine lv_iload_n hx hb dX5_equalTest_16 rfl (lv_at hl 0 rfl) ?_
        have iz17 := rd_in h
        refine va_iald hx hb hK.1 hP 6 0 rfl rfl (rd_in h) dX5_equalTest_17 (lv_topi (fun z17 ez17 => ?_))
        replace h := rd_k h ez17
        refine lv_aload_n hx hb dX5_equalTest_18 rfl (lv_at hl 3 rfl) ?_
        obtain ⟨z19, e_19, h⟩ := bd_s h
        refine cr_i (va_runV (As := [.int x1, .int z17, .ref (aT 0)]) (rest := []) ⟨hx, hb, hml, hown, hts⟩ (c_X5_sameTest l D g aE aT e_count e_worst e_expected e_classCount e_tests e_actions e_extents e_depths e_classes e_lowest e_leafClasses t_conditions t_cases t_rules t_defaultAction t_sizes t_strides t_costs t_weights t_sets t_actions t_rulesWith x1 z17 z19 e_19) (cwV 3 hts gX5_equalTest_X5_sameTest rfl rfl rfl ⟨rfl, pd_X5_sameTest⟩ ⟨Nat.le_of_ble_eq_true rfl, Nat.le_of_ble_eq_true rfl⟩) (pr_v hK hP (q0 := 0) (ci := 5) rfl rfl rfl) rfl rfl hl.1 rfl (lv_room (Nat.le_of_ble_eq_true rfl)) dX5_equalTest_19 ⟨Nat.zero_le _, Nat.zero_le _⟩) ?_
        refine lb_eq (tgt := 27) hx hb dX5_equalTest_22 (by decide) (fun c22 => ?_) (fun c22 => ?_)
        · replace h := ite_t c22 h
          refine lv_iload_n hx hb dX5_equalTest_25 rfl (lv_at hl 0 rfl) ?_
          replace h := Option.some.inj h
          subst h
          replace h := wk_r k1
          subst h
          exact W.iret hx hb hr (fun t ht hW => ⟨_, rfl, rfl, ht⟩) (fun q hq => by cases hq) dX5_equalTest_26
        · replace h := ite_f c22 h
          refine lv_iinc (v := (v3_2 + 1)) (lv' := [(3, .int (v3_2 + 1)), (0, .ref (aE 0)), (1, .int x1), (2, .ref (aT 0))]) hx hb dX5_equalTest_27 hl (k := 0) rfl rfl (by decide) rfl (fun ls hl => ?_)
          refine lv_goto (tgt := 2) hx hb dX5_equalTest_30 (by decide) ?_
          replace h := Option.some.inj h
          subst h
          exact ih1 (v3_2 + 1) (wk_l k1) ls (lv_sub hl [0, 1, 2, 3] rfl)
  exact lp2 5000 (0 : Int32) h ls (lv_sub hl [0, 1, 2, 3] rfl)
theorem pd_X5_share : yX5_share.cls ≠ "java/lang/invoke/MethodHandle" ∧ yX5_share.cls ≠ "java/lang/invoke/VarHandle" ∧ (parseMethodDescriptor yX5_share.desc).map (fun d => d.parameters.length) = some 1 := by decide +kernel
def f_X5_share_s20 (e_count : Int32) (e_tests : Nat → Int32) (e_actions : Nat → Int32) (e_extents : Nat → Int32) (t_sizes : Nat → Int32) (v2_20 : Int32) (e_classCount_20 : Int32) (e_classes_20 : Nat → Int32) (e_lowest_20 : Nat → Int32) (e_leafClasses_20 : Nat → Int32) : Option ((Int32 × Int32 × (Nat → Int32) × (Nat → Int32) × (Nat → Int32)) ⊕ (Int32 × (Nat → Int32) × (Nat → Int32) × (Nat → Int32))) :=
  (if v2_20 < (0 : Int32) then (some (.inr (e_classCount_20, e_classes_20, e_lowest_20, e_leafClasses_20))) else (rd 781 e_tests v2_20 fun z29 => (if z29 = (-1 : Int32) then (nm (e_actions v2_20.toNatClampNeg) fun z43 => (rd 11 e_leafClasses_20 (z43 + (1 : Int32)) fun z46 => (if (0 : Int32) ≤ z46 then (ix 167 z46 (some (.inl ((v2_20 + (-1)), e_classCount_20, (upd e_classes_20 v2_20.toNatClampNeg z46), (upd e_lowest_20 z46.toNatClampNeg v2_20), (upd e_leafClasses_20 (z43 + (1 : Int32)).toNatClampNeg z46))))) else (ix 167 e_classCount_20 (some (.inl ((v2_20 + (-1)), (e_classCount_20 + (1 : Int32)), (upd e_classes_20 v2_20.toNatClampNeg e_classCount_20), (upd e_lowest_20 e_classCount_20.toNatClampNeg v2_20), (upd e_leafClasses_20 (z43 + (1 : Int32)).toNatClampNeg e_classCount_20)))))))) else (Option.bind (f_X5_equalTest e_count e_classCount_20 e_tests e_extents e_classes_20 e_lowest_20 t_sizes v2_20) fun z53 => (if (0 : Int32) ≤ z53 then (ix 167 z53 (some (.inl ((v2_20 + (-1)), e_classCount_20, (upd e_classes_20 v2_20.toNatClampNeg z53), (upd e_lowest_20 z53.toNatClampNeg v2_20), e_leafClasses_20)))) else (ix 167 e_classCount_20 (some (.inl ((v2_20 + (-1)), (e_classCount_20 + (1 : Int32)), (upd e_classes_20 v2_20.toNatClampNeg e_classCount_20), (upd e_lowest_20 e_classCount_20.toNatClampNeg v2_20), e_leafClasses_20)))))))))
def f_X5_share (e_count : Int32) (e_classCount : Int32) (e_tests : Nat → Int32) (e_actions : Nat → Int32) (e_extents : Nat → Int32) (e_classes : Nat → Int32) (e_lowest : Nat → Int32) (e_leafClasses : Nat → Int32) (t_sizes : Nat → Int32) : Option (Int32 × (Nat → Int32) × (Nat → Int32) × (Nat → Int32)) :=
  (wl (fun q => f_X5_share_s20 e_count e_tests e_actions e_extents t_sizes q.1 q.2.1 q.2.2.1 q.2.2.2.1 q.2.2.2.2) 5000 ((e_count - (1 : Int32)), (0 : Int32), e_classes, e_lowest, (fil 11 (-1 : Int32) e_leafClasses)))
set_option maxHeartbeats 4000000 in
set_option maxRecDepth 100000 in
theorem c_X5_share (l : Launch) (sz : Nat) (D : va_G) (g : Nat → ClassId) (aE aT : Nat → Nat) (e_count : Int32) (e_worst : Int32) (e_expected : Int64) (e_classCount : Int32) (e_tests : Nat → Int32) (e_actions : Nat → Int32) (e_extents : Nat → Int32) (e_depths : Nat → Int32) (e_classes : Nat → Int32) (e_lowest : Nat → Int32) (e_leafClasses : Nat → Int32) (t_conditions : Int32) (t_cases : Int32) (t_rules : Int32) (t_defaultAction : Int32) (t_sizes : Nat → Int32) (t_strides : Nat → Int32) (t_costs : Nat → Int32) (t_weights : Nat → Int32) (t_sets : Nat → Int32) (t_actions : Nat → Int32) (t_rulesWith : Nat → Int32)  (e_classCount_n : Int32) (e_classes_n : Nat → Int32) (e_lowest_n : Nat → Int32) (e_leafClasses_n : Nat → Int32) (hf : f_X5_share e_count e_classCount e_tests e_actions e_extents e_classes e_lowest e_leafClasses t_sizes = some (e_classCount_n, e_classes_n, e_lowest_n, e_leafClasses_n)) : CM l yX5_share wsX5_share 3 70 sz D g [.ref (aE 0), .ref (aT 0)] (wX5 g aE e_count e_worst e_expected e_classCount e_tests e_actions e_extents e_depths e_classes e_lowest e_leafClasses ++ (wX4 g aT t_conditions t_cases t_rules t_defaultAction t_sizes t_strides t_costs t_weights t_sets t_actions t_rulesWith)) (QMv D (wX5 g aE e_count e_worst e_expected e_classCount e_tests e_actions e_extents e_depths e_classes e_lowest e_leafClasses ++ (wX4 g aT t_conditions t_cases t_rules t_defaultAction t_sizes t_strides t_costs t_weights t_sets t_actions t_rulesWith)) sz (wX5 g aE e_count e_worst e_expected e_classCount_n e_tests e_actions e_extents e_depths e_classes_n e_lowest_n e_leafClasses_n ++ (wX4 g aT t_conditions t_cases t_rules t_defaultAction t_sizes t_strides t_costs t_weights t_sets t_actions t_rulesWith))) := by
  refine Met.ofW (cc := cX5_share) (maxL := 4) (ret := none) (by decide) rfl ?_
  intro p e s m args below meth c s₁ B hml hv
  obtain ⟨rfl, hsz, hP, hK, hD0⟩ := hv
  have hx := B.exec
  have hb := B.bytes
  have hr := B.returns
  have hts := atoms_spec (ws := wsX5_share) B.pre
  have hown : s.vm.findClass RX5 = some m.cls := findClass_of_methodNamed B.named
  have hlocks := B.notSynchronized
  have hh0 := (show ∀ w ∈ wsX50, w ∈ wsX5_share from by decide +kernel)
  have hh1 := hts (.fieldLink RX5 95 "DecisionTableCompiler$Tree" "classCount" "I") (by decide +kernel)
  have hh2 := hts (.fieldLink RX5 30 "DecisionTableCompiler$Tree" "leafClasses" "[I") (by decide +kernel)
  have hh3 := hts (.fieldLink RX5 33 "DecisionTableCompiler$Tree" "count" "I") (by decide +kernel)
  have hh4 := hts (.fieldLink RX5 9 "DecisionTableCompiler$Tree" "tests" "[I") (by decide +kernel)
  have hh5 := hts (.fieldLink RX5 24 "DecisionTableCompiler$Tree" "classes" "[I") (by decide +kernel)
  have hh6 := hts (.fieldLink RX5 27 "DecisionTableCompiler$Tree" "lowest" "[I") (by decide +kernel)
  have hh7 := hts (.fieldLink RX5 15 "DecisionTableCompiler$Tree" "actions" "[I") (by decide +kernel)
  subst hsz
  have hD := hD0.self (sz := s.heap.size)
  have hA : ∀ q : Nat, s.heap.size ≤ q → va_A (wX5 g aE e_count e_worst e_expected e_classCount e_tests e_actions e_extents e_depths e_classes e_lowest e_leafClasses ++ (wX4 g aT t_conditions t_cases t_rules t_defaultAction t_sizes t_strides t_costs t_weights t_sets t_actions t_rulesWith)) s.heap.size q := fun q h => Or.inr h
  have hS : va_S (va_A (wX5 g aE e_count e_worst e_expected e_classCount e_tests e_actions e_extents e_depths e_classes e_lowest e_leafClasses ++ (wX4 g aT t_conditions t_cases t_rules t_defaultAction t_sizes t_strides t_costs t_weights t_sets t_actions t_rulesWith)) s.heap.size) s.heap s.heap [] := va_S.rf
  have hl := lv_entry ([.ref (aE 0), .ref (aT 0)]) (n := 4) (Nat.le_of_ble_eq_true rfl)
  rw [lg_entry_eq]
  generalize (lg_sl ([.ref (aE 0), .ref (aT 0)]) ++ List.replicate (4 - (lg_sl ([.ref (aE 0), .ref (aT 0)])).length) Slot.unset).toArray = ls at hl ⊢
  replace hl : lv_has ls 4 [(0, .ref (aE 0)), (1, .ref (aT 0))] := hl
  have h := hf
  unfold f_X5_share at h
  obtain ⟨H, hH⟩ : ∃ H, H = s.heap := ⟨_, rfl⟩
  obtain ⟨locs, hlc⟩ : ∃ q : List Loc, q = [] := ⟨_, rfl⟩
  have hS : va_S (va_A (wX5 g aE e_count e_worst e_expected e_classCount e_tests e_actions e_extents e_depths e_classes e_lowest e_leafClasses ++ (wX4 g aT t_conditions t_cases t_rules t_defaultAction t_sizes t_strides t_costs t_weights t_sets t_actions t_rulesWith)) s.heap.size) s.heap H locs := by rw [hH, hlc]; exact hS
  replace hP : va_P D vwCl (wX5 g aE e_count e_worst e_expected e_classCount e_tests e_actions e_extents e_depths e_classes e_lowest e_leafClasses ++ (wX4 g aT t_conditions t_cases t_rules t_defaultAction t_sizes t_strides t_costs t_weights t_sets t_actions t_rulesWith)) H := by rw [hH]; exact hP
  suffices hW : W p l e (headSpec wsX5_share ({ frames := 3, cells := 0, slots := 0, locals := 70 })).room s m ([.ref (aE 0), .ref (aT 0)] : List Value).toArray below meth c H locs 0 0 (MQ below (QMv D (wX5 g aE e_count e_worst e_expected e_classCount e_tests e_actions e_extents e_depths e_classes e_lowest e_leafClasses ++ (wX4 g aT t_conditions t_cases t_rules t_defaultAction t_sizes t_strides t_costs t_weights t_sets t_actions t_rulesWith)) s.heap.size (wX5 g aE e_count e_worst e_expected e_classCount_n e_tests e_actions e_extents e_depths e_classes_n e_lowest_n e_leafClasses_n ++ (wX4 g aT t_conditions t_cases t_rules t_defaultAction t_sizes t_strides t_costs t_weights t_sets t_actions t_rulesWith))) ([.ref (aE 0), .ref (aT 0)] : List Value).toArray s 0 0 (va_A (wX5 g aE e_count e_worst e_expected e_classCount e_tests e_actions e_extents e_depths e_classes e_lowest e_leafClasses ++ (wX4 g aT t_conditions t_cases t_rules t_defaultAction t_sizes t_strides t_costs t_weights t_sets t_actions t_rulesWith)) s.heap.size)) (F0 m 0 ls []) by rw [hH, hlc] at hW; exact hW
  clear hH hlc
  refine lv_aload_n hx hb dX5_share_0 rfl (lv_at hl 0 rfl) ?_
  refine lv_iconst (v := 0) hx hb dX5_share_1 (by decide) ?_
  refine va_put (D := D) (ci := 5) (v := .int (0 : Int32)) (ty := .int) (C := RX5) (T := TX5) (N := 11) hx hb hts hh0 tyX5 tyX5_ok nmX5 hown hK.1 hP hD hS 0 rfl rfl 3 (by decide) hh1 (fun _ h9 => h9) rfl (by decide +kernel) rfl rfl (Nat.le_of_ble_eq_true rfl) dX5_share_2 (fun H locs hP hD hS => ?_)
  replace hP : va_P D vwCl (wX5 g aE e_count e_worst e_expected (0 : Int32) e_tests e_actions e_extents e_depths e_classes e_lowest e_leafClasses ++ (wX4 g aT t_conditions t_cases t_rules t_defaultAction t_sizes t_strides t_costs t_weights t_sets t_actions t_rulesWith)) H := hP
  replace hD : va_D (va_A (wX5 g aE e_count e_worst e_expected e_classCount e_tests e_actions e_extents e_depths e_classes e_lowest e_leafClasses ++ (wX4 g aT t_conditions t_cases t_rules t_defaultAction t_sizes t_strides t_costs t_weights t_sets t_actions t_rulesWith)) s.heap.size) (wX5 g aE e_count e_worst e_expected (0 : Int32) e_tests e_actions e_extents e_depths e_classes e_lowest e_leafClasses ++ (wX4 g aT t_conditions t_cases t_rules t_defaultAction t_sizes t_strides t_costs t_weights t_sets t_actions t_rulesWith)) := hD
  refine lv_aload_n hx hb dX5_share_5 rfl (lv_at hl 0 rfl) ?_
  refine va_get (D := D) (ci := 5) (v := .ref (aE 7)) (C := RX5) (T := TX5) (N := 11) hx hb hts hh0 hown hK.1 hP 0 rfl rfl 10 (by decide) hh2 (fun _ h9 => h9) rfl dX5_share_6 ?_
  refine lv_iconst (v := -1) hx hb dX5_share_9 (by decide) ?_
  refine cm_v (ws := (wX5 g aE e_count e_worst e_expected (0 : Int32) e_tests e_actions e_extents e_depths e_classes e_lowest e_leafClasses ++ (wX4 g aT t_conditions t_cases t_rules t_defaultAction t_sizes t_strides t_costs t_weights t_sets t_actions t_rulesWith))) (isC := [7]) (va_runS (As := [.ref (aE 7), .int (-1 : Int32)]) (rest := []) ⟨hx, hb, hml, hown, hts⟩ (c_J7_fill_53178 l H.size D g (aE 7) 11 e_leafClasses (-1 : Int32) (Nat.le_of_ble_eq_true rfl)) (va_cwS 2 hts gX5_share_J7_fill_53178 rfl rfl rfl pd_J7_fill_53178 ⟨Nat.le_of_ble_eq_true rfl, Nat.le_of_ble_eq_true rfl⟩) (pw_s hK (hP.sub (ws' := [(aE 7, .inl (g 0, 11, .inl e_leafClasses))]) [7] rfl) (hD.sub (ws' := [(aE 7, .inl (g 0, 11, .inl e_leafClasses))]) [7] (by decide) rfl)) rfl rfl hl.1 rfl (lv_room (Nat.le_of_ble_eq_true rfl)) dX5_share_10 ⟨Nat.zero_le _, Nat.zero_le _⟩) hP hD hS hA rfl [0, 1, 2, 3, 4, 5, 6, 8, 9, 10, 11, 12, 13, 14, 15] (wr := ([0, 1, 2, 3, 4, 5, 6, 8, 9, 10, 11, 12, 13, 14, 15].filterMap (fun i => (wX5 g aE e_count e_worst e_expected (0 : Int32) e_tests e_actions e_extents e_depths e_classes e_lowest e_leafClasses ++ (wX4 g aT t_conditions t_cases t_rules t_defaultAction t_sizes t_strides t_costs t_weights t_sets t_actions t_rulesWith))[i]?))) rfl (by decide) (by decide) [0, 1, 2, 3, 4, 5, 6, 15, 7, 8, 9, 10, 11, 12, 13, 14] (w2 := (wX5 g aE e_count e_worst e_expected (0 : Int32) e_tests e_actions e_extents e_depths e_classes e_lowest (fil 11 (-1 : Int32) e_leafClasses) ++ (wX4 g aT t_conditions t_cases t_rules t_defaultAction t_sizes t_strides t_costs t_weights t_sets t_actions t_rulesWith))) rfl (by decide) (fun H locs hP hD hS => ?_)
  refine lv_aload_n hx hb dX5_share_13 rfl (lv_at hl 0 rfl) ?_
  refine va_get (D := D) (ci := 5) (v := .int e_count) (C := RX5) (T := TX5) (N := 11) hx hb hts hh0 hown hK.1 hP 0 rfl rfl 0 (by decide) hh3 (fun _ h9 => h9) rfl dX5_share_14 ?_
  refine lv_iconst (v := 1) hx hb dX5_share_17 (by decide) ?_
  refine lv_isub hx hb dX5_share_18 ?_
  refine lv_istore_n (lv' := [(2, .int (e_count - (1 : Int32))), (0, .ref (aE 0)), (1, .ref (aT 0))]) hx hb dX5_share_19 rfl hl (by decide) rfl (fun ls hl => ?_)
  have lp20 : ∀ (n : Nat) (v2_20 : Int32) (e_classCount_20 : Int32) (e_classes_20 : Nat → Int32) (e_lowest_20 : Nat → Int32) (e_leafClasses_20 : Nat → Int32) (H : Heap) (locs : List Loc), va_P D vwCl (wX5 g aE e_count e_worst e_expected e_classCount_20 e_tests e_actions e_extents e_depths e_classes_20 e_lowest_20 e_leafClasses_20 ++ (wX4 g aT t_conditions t_cases t_rules t_defaultAction t_sizes t_strides t_costs t_weights t_sets t_actions t_rulesWith)) H → va_D (va_A (wX5 g aE e_count e_worst e_expected e_classCount e_tests e_actions e_extents e_depths e_classes e_lowest e_leafClasses ++ (wX4 g aT t_conditions t_cases t_rules t_defaultAction t_sizes t_strides t_costs t_weights t_sets t_actions t_rulesWith)) s.heap.size) (wX5 g aE e_count e_worst e_expected e_classCount_20 e_tests e_actions e_extents e_depths e_classes_20 e_lowest_20 e_leafClasses_20 ++ (wX4 g aT t_conditions t_cases t_rules t_defaultAction t_sizes t_strides t_costs t_weights t_sets t_actions t_rulesWith)) → va_S (va_A (wX5 g aE e_count e_worst e_expected e_classCount e_tests e_actions e_extents e_depths e_classes e_lowest e_leafClasses ++ (wX4 g aT t_conditions t_cases t_rules t_defaultAction t_sizes t_strides t_costs t_weights t_sets t_actions t_rulesWith)) s.heap.size) s.heap H locs → wl (fun q => f_X5_share_s20 e_count e_tests e_actions e_extents t_sizes q.1 q.2.1 q.2.2.1 q.2.2.2.1 q.2.2.2.2) n (v2_20, e_classCount_20, e_classes_20, e_lowest_20, e_leafClasses_20) = some (e_classCount_n, e_classes_n, e_lowest_n, e_leafClasses_n) → ∀ ls : Array Slot, lv_has ls 4 [(2, .int v2_20), (0, .ref (aE 0)), (1, .ref (aT 0))] → W p l e (headSpec wsX5_share ({ frames := 3, cells := 0, slots := 0, locals := 70 })).room s m ([.ref (aE 0), .ref (aT 0)] : List Value).toArray below meth c H locs 0 0 (MQ below (QMv D (wX5 g aE e_count e_worst e_expected e_classCount e_tests e_actions e_extents e_depths e_classes e_lowest e_leafClasses ++ (wX4 g aT t_conditions t_cases t_rules t_defaultAction t_sizes t_strides t_costs t_weights t_sets t_actions t_rulesWith)) s.heap.size (wX5 g aE e_count e_worst e_expected e_classCount_n e_tests e_actions e_extents e_depths e_classes_n e_lowest_n e_leafClasses_n ++ (wX4 g aT t_conditions t_cases t_rules t_defaultAction t_sizes t_strides t_costs t_weights t_sets t_actions t_rulesWith))) ([.ref (aE 0), .ref (aT 0)] : List Value).toArray s 0 0 (va_A (wX5 g aE e_count e_worst e_expected e_classCount e_tests e_actions e_extents e_depths e_classes e_lowest e_leafClasses ++ (wX4 g aT t_conditions t_cases t_rules t_defaultAction t_sizes t_strides t_costs t_weights t_sets t_actions t_rulesWith)) s.heap.size)) (F0 m 20 ls []) := by
    intro n
    induction n with
    | zero =>
      intro v2_20 e_classCount_20 e_classes_20 e_lowest_20 e_leafClasses_20 H locs hP hD hS h
      exact wl_0 h
    | succ n ih1 =>
      intro v2_20 e_classCount_20 e_classes_20 e_lowest_20 e_leafClasses_20 H locs hP hD hS h ls hl
      obtain ⟨o1, h, k1⟩ := wl_s h
      replace h : f_X5_share_s20 e_count e_tests e_actions e_extents t_sizes v2_20 e_classCount_20 e_classes_20 e_lowest_20 e_leafClasses_20 = some o1 := h
      unfold f_X5_share_s20 at h
      refine lv_iload_n hx hb dX5_share_20 rfl (lv_at hl 0 rfl) ?_
      refine lv_if_lt (tgt := 120) hx hb dX5_share_21 (by decide) (fun c21 => ?_) (fun c21 => ?_)
      · replace h := ite_t c21 h
        replace h := Option.some.inj h
        subst h
        replace h := wk_r k1
        have hj0 := (Prod.mk.inj h).1
        have hg0 := (Prod.mk.inj h).2
        have hj1 := (Prod.mk.inj hg0).1
        have hg1 := (Prod.mk.inj hg0).2
        have hj2 := (Prod.mk.inj hg1).1
        have hg2 := (Prod.mk.inj hg1).2
        clear hg0
        clear hg1
        subst hj0
        subst hj1
        subst hj2
        subst hg2
        exact W.vret hx hb hr (fun t ht hW => ⟨⟨(), rfl, trivial, by rw [ht]; exact hP, hD⟩, hS.F ht⟩) hS.2.2 dX5_share_120
      · replace h := ite_f c21 h
        refine lv_aload_n hx hb dX5_share_24 rfl (lv_at hl 1 rfl) ?_
        refine va_get (D := D) (ci := 5) (v := .ref (aE 1)) (C := RX5) (T := TX5) (N := 11) hx hb hts hh0 hown hK.1 hP 0 rfl rfl 4 (by decide) hh4 (fun _ h9 => h9) rfl dX5_share_25 ?_
        refine lv_iload_n hx hb dX5_share_28 rfl (lv_at hl 0 rfl) ?_
        have iz29 := rd_in h
        refine va_iald hx hb hK.1 hP 1 0 rfl rfl (rd_in h) dX5_share_29 (lv_topi (fun z29 ez29 => ?_))
        replace h := rd_k h ez29
        refine lv_iconst (v := -1) hx hb dX5_share_30 (by decide) ?_
        refine lv_icmp_ne (tgt := 50) hx hb dX5_share_31 (by decide) (fun c31 => ?_) (fun c31 => ?_)
        · replace h := ite_f c31 h
          refine lv_aload_n hx hb dX5_share_50 rfl (lv_at hl 1 rfl) ?_
          refine lv_iload_n hx hb dX5_share_51 rfl (lv_at hl 0 rfl) ?_
          refine lv_aload_n hx hb dX5_share_52 rfl (lv_at hl 2 rfl) ?_
          obtain ⟨z53, e_53, h⟩ := bd_s h
          refine cr_i (va_runV (As := [.int v2_20, .ref (aT 0)]) (rest := []) ⟨hx, hb, hml, hown, hts⟩ (c_X5_equalTest l D g aE aT e_count e_worst e_expected e_classCount_20 e_tests e_actions e_extents e_depths e_classes_20 e_lowest_20 e_leafClasses_20 t_conditions t_cases t_rules t_defaultAction t_sizes t_strides t_costs t_weights t_sets t_actions t_rulesWith v2_20 z53 e_53) (cwV 2 hts gX5_share_X5_equalTest rfl rfl rfl ⟨rfl, pd_X5_equalTest⟩ ⟨Nat.le_of_ble_eq_true rfl, Nat.le_of_ble_eq_true rfl⟩) (pr_v hK hP (q0 := 0) (ci := 5) rfl rfl rfl) rfl rfl hl.1 rfl (lv_room (Nat.le_of_ble_eq_true rfl)) dX5_share_53 ⟨Nat.zero_le _, Nat.zero_le _⟩) ?_
          refine lv_istore_n (lv' := [(3, .int z53), (2, .int v2_20), (0, .ref (aE 0)), (1, .ref (aT 0))]) hx hb dX5_share_56 rfl hl (by decide) rfl (fun ls hl => ?_)
          refine lv_iload_n hx hb dX5_share_57 rfl (lv_at hl 0 rfl) ?_
          refine lv_if_ge (tgt := 76) hx hb dX5_share_58 (by decide) (fun c58 => ?_) (fun c58 => ?_)
          · replace h := ite_t c58 h
            refine lv_aload_n hx hb dX5_share_76 rfl (lv_at hl 2 rfl) ?_
            refine va_get (D := D) (ci := 5) (v := .ref (aE 1)) (C := RX5) (T := TX5) (N := 11) hx hb hts hh0 hown hK.1 hP 0 rfl rfl 4 (by decide) hh4 (fun _ h9 => h9) rfl dX5_share_77 ?_
            refine lv_iload_n hx hb dX5_share_80 rfl (lv_at hl 1 rfl) ?_
            refine va_iald hx hb hK.1 hP 1 0 rfl rfl iz29 dX5_share_81 (lv_topi (fun u81 eu81 => ?_))
            have eu : z29 = u81 := ez29.trans eu81.symm
            subst eu
            refine lv_iconst (v := -1) hx hb dX5_share_82 (by decide) ?_
            refine lv_icmp_ne (tgt := 100) hx hb dX5_share_83 (by decide) (fun _ => ?_) (fun q => absurd q c31)
            refine lv_aload_n hx hb dX5_share_100 rfl (lv_at hl 2 rfl) ?_
            refine va_get (D := D) (ci := 5) (v := .ref (aE 5)) (C := RX5) (T := TX5) (N := 11) hx hb hts hh0 hown hK.1 hP 0 rfl rfl 8 (by decide) hh5 (fun _ h9 => h9) rfl dX5_share_101 ?_
            refine lv_iload_n hx hb dX5_share_104 rfl (lv_at hl 1 rfl) ?_
            refine lv_iload_n hx hb dX5_share_105 rfl (lv_at hl 0 rfl) ?_
            refine va_iast hx hb hK.1 hP hD hS 5 0 rfl rfl iz29 dX5_share_106 (fun H locs hP hD hS => ?_)
            replace hP : va_P D vwCl (wX5 g aE e_count e_worst e_expected e_classCount_20 e_tests e_actions e_extents e_depths (upd e_classes_20 v2_20.toNatClampNeg z53) e_lowest_20 e_leafClasses_20 ++ (wX4 g aT t_conditions t_cases t_rules t_defaultAction t_sizes t_strides t_costs t_weights t_sets t_actions t_rulesWith)) H := hP
            replace hD : va_D (va_A (wX5 g aE e_count e_worst e_expected e_classCount e_tests e_actions e_extents e_depths e_classes e_lowest e_leafClasses ++ (wX4 g aT t_conditions t_cases t_rules t_defaultAction t_sizes t_strides t_costs t_weights t_sets t_actions t_rulesWith)) s.heap.size) (wX5 g aE e_count e_worst e_expected e_classCount_20 e_tests e_actions e_extents e_depths (upd e_classes_20 v2_20.toNatClampNeg z53) e_lowest_20 e_leafClasses_20 ++ (wX4 g aT t_conditions t_cases t_rules t_defaultAction t_sizes t_strides t_costs t_weights t_sets t_actions t_rulesWith)) := hD
            refine lv_aload_n hx hb dX5_share_107 rfl (lv_at hl 2 rfl) ?_
            refine va_get (D := D) (ci := 5) (v := .ref (aE 6)) (C := RX5) (T := TX5) (N := 11) hx hb hts hh0 hown hK.1 hP 0 rfl rfl 9 (by decide) hh6 (fun _ h9 => h9) rfl dX5_share_108 ?_
            refine lv_iload_n hx hb dX5_share_111 rfl (lv_at hl 0 rfl) ?_
            refine lv_iload_n hx hb dX5_share_112 rfl (lv_at hl 1 rfl) ?_
            have ib113 := ix_in h
            replace h := ix_k h
            refine va_iast hx hb hK.1 hP hD hS 6 0 rfl rfl ib113 dX5_share_113 (fun H locs hP hD hS => ?_)
            replace hP : va_P D vwCl (wX5 g aE e_count e_worst e_expected e_classCount_20 e_tests e_actions e_extents e_depths (upd e_classes_20 v2_20.toNatClampNeg z53) (upd e_lowest_20 z53.toNatClampNeg v2_20) e_leafClasses_20 ++ (wX4 g aT t_conditions t_cases t_rules t_defaultAction t_sizes t_strides t_costs t_weights t_sets t_actions t_rulesWith)) H := hP
            replace hD : va_D (va_A (wX5 g aE e_count e_worst e_expected e_classCount e_tests e_actions e_extents e_depths e_classes e_lowest e_leafClasses ++ (wX4 g aT t_conditions t_cases t_rules t_defaultAction t_sizes t_strides t_costs t_weights t_sets t_actions t_rulesWith)) s.heap.size) (wX5 g aE e_count e_worst e_expected e_classCount_20 e_tests e_actions e_extents e_depths (upd e_classes_20 v2_20.toNatClampNeg z53) (upd e_lowest_20 z53.toNatClampNeg v2_20) e_leafClasses_20 ++ (wX4 g aT t_conditions t_cases t_rules t_defaultAction t_sizes t_strides t_costs t_weights t_sets t_actions t_rulesWith)) := hD
            refine lv_iinc (v := (v2_20 + (-1))) (lv' := [(2, .int (v2_20 + (-1))), (3, .int z53), (0, .ref (aE 0)), (1, .ref (aT 0))]) hx hb dX5_share_114 hl (k := 1) rfl rfl (by decide) rfl (fun ls hl => ?_)
            refine lv_goto (tgt := 20) hx hb dX5_share_117 (by decide) ?_
            replace h := Option.some.inj h
            subst h
            exact ih1 (v2_20 + (-1)) e_classCount_20 (upd e_classes_20 v2_20.toNatClampNeg z53) (upd e_lowest_20 z53.toNatClampNeg v2_20) e_leafClasses_20 H locs hP hD hS (wk_l k1) ls (lv_sub hl [0, 2, 3] rfl)
          · replace h := ite_f c58 h
            refine lv_aload_n hx hb dX5_share_61 rfl (lv_at hl 2 rfl) ?_
            refine va_get (D := D) (ci := 5) (v := .int e_classCount_20) (C := RX5) (T := TX5) (N := 11) hx hb hts hh0 hown hK.1 hP 0 rfl rfl 3 (by decide) hh1 (fun _ h9 => h9) rfl dX5_share_62 ?_
            refine lv_istore_n (lv' := [(3, .int e_classCount_20), (2, .int v2_20), (0, .ref (aE 0)), (1, .ref (aT 0))]) hx hb dX5_share_65 rfl hl (by decide) rfl (fun ls hl => ?_)
            refine lv_aload_n hx hb dX5_share_66 rfl (lv_at hl 2 rfl) ?_
            refine lv_dup hx hb dX5_share_67 rfl ?_
            refine va_get (D := D) (ci := 5) (v := .int e_classCount_20) (C := RX5) (T := TX5) (N := 11) hx hb hts hh0 hown hK.1 hP 0 rfl rfl 3 (by decide) hh1 (fun _ h9 => h9) rfl dX5_share_68 ?_
            refine lv_iconst (v := 1) hx hb dX5_share_71 (by decide) ?_
            refine lv_iadd hx hb dX5_share_72 ?_
            refine va_put (D := D) (ci := 5) (v := .int (e_classCount_20 + (1 : Int32))) (ty := .int) (C := RX5) (T := TX5) (N := 11) hx hb hts hh0 tyX5 tyX5_ok nmX5 hown hK.1 hP hD hS 0 rfl rfl 3 (by decide) hh1 (fun _ h9 => h9) rfl (by decide +kernel) rfl rfl (Nat.le_of_ble_eq_true rfl) dX5_share_73 (fun H locs hP hD hS => ?_)
            replace hP : va_P D vwCl (wX5 g aE e_count e_worst e_expected (e_classCount_20 + (1 : Int32)) e_tests e_actions e_extents e_depths e_classes_20 e_lowest_20 e_leafClasses_20 ++ (wX4 g aT t_conditions t_cases t_rules t_defaultAction t_sizes t_strides t_costs t_weights t_sets t_actions t_rulesWith)) H := hP
            replace hD : va_D (va_A (wX5 g aE e_count e_worst e_expected e_classCount e_tests e_actions e_extents e_depths e_classes e_lowest e_leafClasses ++ (wX4 g aT t_conditions t_cases t_rules t_defaultAction t_sizes t_strides t_costs t_weights t_sets t_actions t_rulesWith)) s.heap.size) (wX5 g aE e_count e_worst e_expected (e_classCount_20 + (1 : Int32)) e_tests e_actions e_extents e_depths e_classes_20 e_lowest_20 e_leafClasses_20 ++ (wX4 g aT t_conditions t_cases t_rules t_defaultAction t_sizes t_strides t_costs t_weights t_sets t_actions t_rulesWith)) := hD
            refine lv_aload_n hx hb dX5_share_76 rfl (lv_at hl 2 rfl) ?_
            refine va_get (D := D) (ci := 5) (v := .ref (aE 1)) (C := RX5) (T := TX5) (N := 11) hx hb hts hh0 hown hK.1 hP 0 rfl rfl 4 (by decide) hh4 (fun _ h9 => h9) rfl dX5_share_77 ?_
            refine lv_iload_n hx hb dX5_share_80 rfl (lv_at hl 1 rfl) ?_
            refine va_iald hx hb hK.1 hP 1 0 rfl rfl iz29 dX5_share_81 (lv_topi (fun u81 eu81 => ?_))
            have eu : z29 = u81 := ez29.trans eu81.symm
            subst eu
            refine lv_iconst (v := -1) hx hb dX5_share_82 (by decide) ?_
            refine lv_icmp_ne (tgt := 100) hx hb dX5_share_83 (by decide) (fun _ => ?_) (fun q => absurd q c31)
            refine lv_aload_n hx hb dX5_share_100 rfl (lv_at hl 2 rfl) ?_
            refine va_get (D := D) (ci := 5) (v := .ref (aE 5)) (C := RX5) (T := TX5) (N := 11) hx hb hts hh0 hown hK.1 hP 0 rfl rfl 8 (by decide) hh5 (fun _ h9 => h9) rfl dX5_share_101 ?_
            refine lv_iload_n hx hb dX5_share_104 rfl (lv_at hl 1 rfl) ?_
            refine lv_iload_n hx hb dX5_share_105 rfl (lv_at hl 0 rfl) ?_
            refine va_iast hx hb hK.1 hP hD hS 5 0 rfl rfl iz29 dX5_share_106 (fun H locs hP hD hS => ?_)
            replace hP : va_P D vwCl (wX5 g aE e_count e_worst e_expected (e_classCount_20 + (1 : Int32)) e_tests e_actions e_extents e_depths (upd e_classes_20 v2_20.toNatClampNeg e_classCount_20) e_lowest_20 e_leafClasses_20 ++ (wX4 g aT t_conditions t_cases t_rules t_defaultAction t_sizes t_strides t_costs t_weights t_sets t_actions t_rulesWith)) H := hP
            replace hD : va_D (va_A (wX5 g aE e_count e_worst e_expected e_classCount e_tests e_actions e_extents e_depths e_classes e_lowest e_leafClasses ++ (wX4 g aT t_conditions t_cases t_rules t_defaultAction t_sizes t_strides t_costs t_weights t_sets t_actions t_rulesWith)) s.heap.size) (wX5 g aE e_count e_worst e_expected (e_classCount_20 + (1 : Int32)) e_tests e_actions e_extents e_depths (upd e_classes_20 v2_20.toNatClampNeg e_classCount_20) e_lowest_20 e_leafClasses_20 ++ (wX4 g aT t_conditions t_cases t_rules t_defaultAction t_sizes t_strides t_costs t_weights t_sets t_actions t_rulesWith)) := hD
            refine lv_aload_n hx hb dX5_share_107 rfl (lv_at hl 2 rfl) ?_
            refine va_get (D := D) (ci := 5) (v := .ref (aE 6)) (C := RX5) (T := TX5) (N := 11) hx hb hts hh0 hown hK.1 hP 0 rfl rfl 9 (by decide) hh6 (fun _ h9 => h9) rfl dX5_share_108 ?_
            refine lv_iload_n hx hb dX5_share_111 rfl (lv_at hl 0 rfl) ?_
            refine lv_iload_n hx hb dX5_share_112 rfl (lv_at hl 1 rfl) ?_
            have ib113 := ix_in h
            replace h := ix_k h
            refine va_iast hx hb hK.1 hP hD hS 6 0 rfl rfl ib113 dX5_share_113 (fun H locs hP hD hS => ?_)
            replace hP : va_P D vwCl (wX5 g aE e_count e_worst e_expected (e_classCount_20 + (1 : Int32)) e_tests e_actions e_extents e_depths (upd e_classes_20 v2_20.toNatClampNeg e_classCount_20) (upd e_lowest_20 e_classCount_20.toNatClampNeg v2_20) e_leafClasses_20 ++ (wX4 g aT t_conditions t_cases t_rules t_defaultAction t_sizes t_strides t_costs t_weights t_sets t_actions t_rulesWith)) H := hP
            replace hD : va_D (va_A (wX5 g aE e_count e_worst e_expected e_classCount e_tests e_actions e_extents e_depths e_classes e_lowest e_leafClasses ++ (wX4 g aT t_conditions t_cases t_rules t_defaultAction t_sizes t_strides t_costs t_weights t_sets t_actions t_rulesWith)) s.heap.size) (wX5 g aE e_count e_worst e_expected (e_classCount_20 + (1 : Int32)) e_tests e_actions e_extents e_depths (upd e_classes_20 v2_20.toNatClampNeg e_classCount_20) (upd e_lowest_20 e_classCount_20.toNatClampNeg v2_20) e_leafClasses_20 ++ (wX4 g aT t_conditions t_cases t_rules t_defaultAction t_sizes t_strides t_costs t_weights t_sets t_actions t_rulesWith)) := hD
            refine lv_iinc (v := (v2_20 + (-1))) (lv' := [(2, .int (v2_20 + (-1))), (3, .int e_classCount_20), (0, .ref (aE 0)), (1, .ref (aT 0))]) hx hb dX5_share_114 hl (k := 1) rfl rfl (by decide) rfl (fun ls hl => ?_)
            refine lv_goto (tgt := 20) hx hb dX5_share_117 (by decide) ?_
            replace h := Option.some.inj h
            subst h
            exact ih1 (v2_20 + (-1)) (e_classCount_20 + (1 : Int32)) (upd e_classes_20 v2_20.toNatClampNeg e_classCount_20) (upd e_lowest_20 e_classCount_20.toNatClampNeg v2_20) e_leafClasses_20 H locs hP hD hS (wk_l k1) ls (lv_sub hl [0, 2, 3] rfl)
        · replace h := ite_t c31 h
          refine lv_aload_n hx hb dX5_share_34 rfl (lv_at hl 1 rfl) ?_
          refine va_get (D := D) (ci := 5) (v := .ref (aE 7)) (C := RX5) (T := TX5) (N := 11) hx hb hts hh0 hown hK.1 hP 0 rfl rfl 10 (by decide) hh2 (fun _ h9 => h9) rfl dX5_share_35 ?_
          refine lv_aload_n hx hb dX5_share_38 rfl (lv_at hl 1 rfl) ?_
          refine va_get (D := D) (ci := 5) (v := .ref (aE 2)) (C := RX5) (T := TX5) (N := 11) hx hb hts hh0 hown hK.1 hP 0 rfl rfl 5 (by decide) hh7 (fun _ h9 => h9) rfl dX5_share_39 ?_
          refine lv_iload_n hx hb dX5_share_42 rfl (lv_at hl 0 rfl) ?_
          have iz43 := iz29
          refine va_iald hx hb hK.1 hP 2 0 rfl rfl iz43 dX5_share_43 (lv_topi (fun z43 ez43 => ?_))
          replace h := nm_n h ez43
          refine lv_iconst (v := 1) hx hb dX5_share_44 (by decide) ?_
          refine lv_iadd hx hb dX5_share_45 ?_
          have iz46 := rd_in h
          refine va_iald hx hb hK.1 hP 7 0 rfl rfl (rd_in h) dX5_share_46 (lv_topi (fun z46 ez46 => ?_))
          replace h := rd_k h ez46
          refine lv_goto (tgt := 56) hx hb dX5_share_47 (by decide) ?_
          refine lv_istore_n (lv' := [(3, .int z46), (2, .int v2_20), (0, .ref (aE 0)), (1, .ref (aT 0))]) hx hb dX5_share_56 rfl hl (by decide) rfl (fun ls hl => ?_)
          refine lv_iload_n hx hb dX5_share_57 rfl (lv_at hl 0 rfl) ?_
          refine lv_if_ge (tgt := 76) hx hb dX5_share_58 (by decide) (fun c58 => ?_) (fun c58 => ?_)
          · replace h := ite_t c58 h
            refine lv_aload_n hx hb dX5_share_76 rfl (lv_at hl 2 rfl) ?_
            refine va_get (D := D) (ci := 5) (v := .ref (aE 1)) (C := RX5) (T := TX5) (N := 11) hx hb hts hh0 hown hK.1 hP 0 rfl rfl 4 (by decide) hh4 (fun _ h9 => h9) rfl dX5_share_77 ?_
            refine lv_iload_n hx hb dX5_share_80 rfl (lv_at hl 1 rfl) ?_
            refine va_iald hx hb hK.1 hP 1 0 rfl rfl iz29 dX5_share_81 (lv_topi (fun u81 eu81 => ?_))
            have eu : z29 = u81 := ez29.trans eu81.symm
            subst eu
            refine lv_iconst (v := -1) hx hb dX5_share_82 (by decide) ?_
            refine lv_icmp_ne (tgt := 100) hx hb dX5_share_83 (by decide) (fun q => absurd c31 q) (fun _ => ?_)
            refine lv_aload_n hx hb dX5_share_86 rfl (lv_at hl 2 rfl) ?_
            refine va_get (D := D) (ci := 5) (v := .ref (aE 7)) (C := RX5) (T := TX5) (N := 11) hx hb hts hh0 hown hK.1 hP 0 rfl rfl 10 (by decide) hh2 (fun _ h9 => h9) rfl dX5_share_87 ?_
            refine lv_aload_n hx hb dX5_share_90 rfl (lv_at hl 2 rfl) ?_
            refine va_get (D := D) (ci := 5) (v := .ref (aE 2)) (C := RX5) (T := TX5) (N := 11) hx hb hts hh0 hown hK.1 hP 0 rfl rfl 5 (by decide) hh7 (fun _ h9 => h9) rfl dX5_share_91 ?_
            refine lv_iload_n hx hb dX5_share_94 rfl (lv_at hl 1 rfl) ?_
            refine va_iald hx hb hK.1 hP 2 0 rfl rfl iz43 dX5_share_95 (lv_topi (fun u95 eu95 => ?_))
            have eu : z43 = u95 := ez43.trans eu95.symm
            subst eu
            refine lv_iconst (v := 1) hx hb dX5_share_96 (by decide) ?_
            refine lv_iadd hx hb dX5_share_97 ?_
            refine lv_iload_n hx hb dX5_share_98 rfl (lv_at hl 0 rfl) ?_
            refine va_iast hx hb hK.1 hP hD hS 7 0 rfl rfl iz46 dX5_share_99 (fun H locs hP hD hS => ?_)
            replace hP : va_P D vwCl (wX5 g aE e_count e_worst e_expected e_classCount_20 e_tests e_actions e_extents e_depths e_classes_20 e_lowest_20 (upd e_leafClasses_20 (z43 + (1 : Int32)).toNatClampNeg z46) ++ (wX4 g aT t_conditions t_cases t_rules t_defaultAction t_sizes t_strides t_costs t_weights t_sets t_actions t_rulesWith)) H := hP
            replace hD : va_D (va_A (wX5 g aE e_count e_worst e_expected e_classCount e_tests e_actions e_extents e_depths e_classes e_lowest e_leafClasses ++ (wX4 g aT t_conditions t_cases t_rules t_defaultAction t_sizes t_strides t_costs t_weights t_sets t_actions t_rulesWith)) s.heap.size) (wX5 g aE e_count e_worst e_expected e_classCount_20 e_tests e_actions e_extents e_depths e_classes_20 e_lowest_20 (upd e_leafClasses_20 (z43 + (1 : Int32)).toNatClampNeg z46) ++ (wX4 g aT t_conditions t_cases t_rules t_defaultAction t_sizes t_strides t_costs t_weights t_sets t_actions t_rulesWith)) := hD
            refine lv_aload_n hx hb dX5_share_100 rfl (lv_at hl 2 rfl) ?_
            refine va_get (D := D) (ci := 5) (v := .ref (aE 5)) (C := RX5) (T := TX5) (N := 11) hx hb hts hh0 hown hK.1 hP 0 rfl rfl 8 (by decide) hh5 (fun _ h9 => h9) rfl dX5_share_101 ?_
            refine lv_iload_n hx hb dX5_share_104 rfl (lv_at hl 1 rfl) ?_
            refine lv_iload_n hx hb dX5_share_105 rfl (lv_at hl 0 rfl) ?_
            refine va_iast hx hb hK.1 hP hD hS 5 0 rfl rfl iz29 dX5_share_106 (fun H locs hP hD hS => ?_)
            replace hP : va_P D vwCl (wX5 g aE e_count e_worst e_expected e_classCount_20 e_tests e_actions e_extents e_depths (upd e_classes_20 v2_20.toNatClampNeg z46) e_lowest_20 (upd e_leafClasses_20 (z43 + (1 : Int32)).toNatClampNeg z46) ++ (wX4 g aT t_conditions t_cases t_rules t_defaultAction t_sizes t_strides t_costs t_weights t_sets t_actions t_rulesWith)) H := hP
            replace hD : va_D (va_A (wX5 g aE e_count e_worst e_expected e_classCount e_tests e_actions e_extents e_depths e_classes e_lowest e_leafClasses ++ (wX4 g aT t_conditions t_cases t_rules t_defaultAction t_sizes t_strides t_costs t_weights t_sets t_actions t_rulesWith)) s.heap.size) (wX5 g aE e_count e_worst e_expected e_classCount_20 e_tests e_actions e_extents e_depths (upd e_classes_20 v2_20.toNatClampNeg z46) e_lowest_20 (upd e_leafClasses_20 (z43 + (1 : Int32)).toNatClampNeg z46) ++ (wX4 g aT t_conditions t_cases t_rules t_defaultAction t_sizes t_strides t_costs t_weights t_sets t_actions t_rulesWith)) := hD
            refine lv_aload_n hx hb dX5_share_107 rfl (lv_at hl 2 rfl) ?_
            refine va_get (D := D) (ci := 5) (v := .ref (aE 6)) (C := RX5) (T := TX5) (N := 11) hx hb hts hh0 hown hK.1 hP 0 rfl rfl 9 (by decide) hh6 (fun _ h9 => h9) rfl dX5_share_108 ?_
            refine lv_iload_n hx hb dX5_share_111 rfl (lv_at hl 0 rfl) ?_
            refine lv_iload_n hx hb dX5_share_112 rfl (lv_at hl 1 rfl) ?_
            have ib113 := ix_in h
            replace h := ix_k h
            refine va_iast hx hb hK.1 hP hD hS 6 0 rfl rfl ib113 dX5_share_113 (fun H locs hP hD hS => ?_)
            replace hP : va_P D vwCl (wX5 g aE e_count e_worst e_expected e_classCount_20 e_tests e_actions e_extents e_depths (upd e_classes_20 v2_20.toNatClampNeg z46) (upd e_lowest_20 z46.toNatClampNeg v2_20) (upd e_leafClasses_20 (z43 + (1 : Int32)).toNatClampNeg z46) ++ (wX4 g aT t_conditions t_cases t_rules t_defaultAction t_sizes t_strides t_costs t_weights t_sets t_actions t_rulesWith)) H := hP
            replace hD : va_D (va_A (wX5 g aE e_count e_worst e_expected e_classCount e_tests e_actions e_extents e_depths e_classes e_lowest e_leafClasses ++ (wX4 g aT t_conditions t_cases t_rules t_defaultAction t_sizes t_strides t_costs t_weights t_sets t_actions t_rulesWith)) s.heap.size) (wX5 g aE e_count e_worst e_expected e_classCount_20 e_tests e_actions e_extents e_depths (upd e_classes_20 v2_20.toNatClampNeg z46) (upd e_lowest_20 z46.toNatClampNeg v2_20) (upd e_leafClasses_20 (z43 + (1 : Int32)).toNatClampNeg z46) ++ (wX4 g aT t_conditions t_cases t_rules t_defaultAction t_sizes t_strides t_costs t_weights t_sets t_actions t_rulesWith)) := hD
            refine lv_iinc (v := (v2_20 + (-1))) (lv' := [(2, .int (v2_20 + (-1))), (3, .int z46), (0, .ref (aE 0)), (1, .ref (aT 0))]) hx hb dX5_share_114 hl (k := 1) rfl rfl (by decide) rfl (fun ls hl => ?_)
            refine lv_goto (tgt := 20) hx hb dX5_share_117 (by decide) ?_
            replace h := Option.some.inj h
            subst h
            exact ih1 (v2_20 + (-1)) e_classCount_20 (upd e_classes_20 v2_20.toNatClampNeg z46) (upd e_lowest_20 z46.toNatClampNeg v2_20) (upd e_leafClasses_20 (z43 + (1 : Int32)).toNatClampNeg z46) H locs hP hD hS (wk_l k1) ls (lv_sub hl [0, 2, 3] rfl)
          · replace h := ite_f c58 h
            refine lv_aload_n hx hb dX5_share_61 rfl (lv_at hl 2 rfl) ?_
            refine va_get (D := D) (ci := 5) (v := .int e_classCount_20) (C := RX5) (T := TX5) (N := 11) hx hb hts hh0 hown hK.1 hP 0 rfl rfl 3 (by decide) hh1 (fun _ h9 => h9) rfl dX5_share_62 ?_
            refine lv_istore_n (lv' := [(3, .int e_classCount_20), (2, .int v2_20), (0, .ref (aE 0)), (1, .ref (aT 0))]) hx hb dX5_share_65 rfl hl (by decide) rfl (fun ls hl => ?_)
            refine lv_aload_n hx hb dX5_share_66 rfl (lv_at hl 2 rfl) ?_
            refine lv_dup hx hb dX5_share_67 rfl ?_
            refine va_get (D := D) (ci := 5) (v := .int e_classCount_20) (C := RX5) (T := TX5) (N := 11) hx hb hts hh0 hown hK.1 hP 0 rfl rfl 3 (by decide) hh1 (fun _ h9 => h9) rfl dX5_share_68 ?_
            refine lv_iconst (v := 1) hx hb dX5_share_71 (by decide) ?_
            refine lv_iadd hx hb dX5_share_72 ?_
            refine va_put (D := D) (ci := 5) (v := .int (e_classCount_20 + (1 : Int32))) (ty := .int) (C := RX5) (T := TX5) (N := 11) hx hb hts hh0 tyX5 tyX5_ok nmX5 hown hK.1 hP hD hS 0 rfl rfl 3 (by decide) hh1 (fun _ h9 => h9) rfl (by decide +kernel) rfl rfl (Nat.le_of_ble_eq_true rfl) dX5_share_73 (fun H locs hP hD hS => ?_)
            replace hP : va_P D vwCl (wX5 g aE e_count e_worst e_expected (e_classCount_20 + (1 : Int32)) e_tests e_actions e_extents e_depths e_classes_20 e_lowest_20 e_leafClasses_20 ++ (wX4 g aT t_conditions t_cases t_rules t_defaultAction t_sizes t_strides t_costs t_weights t_sets t_actions t_rulesWith)) H := hP
            replace hD : va_D (va_A (wX5 g aE e_count e_worst e_expected e_classCount e_tests e_actions e_extents e_depths e_classes e_lowest e_leafClasses ++ (wX4 g aT t_conditions t_cases t_rules t_defaultAction t_sizes t_strides t_costs t_weights t_sets t_actions t_rulesWith)) s.heap.size) (wX5 g aE e_count e_worst e_expected (e_classCount_20 + (1 : Int32)) e_tests e_actions e_extents e_depths e_classes_20 e_lowest_20 e_leafClasses_20 ++ (wX4 g aT t_conditions t_cases t_rules t_defaultAction t_sizes t_strides t_costs t_weights t_sets t_actions t_rulesWith)) := hD
            refine lv_aload_n hx hb dX5_share_76 rfl (lv_at hl 2 rfl) ?_
            refine va_get (D := D) (ci := 5) (v := .ref (aE 1)) (C := RX5) (T := TX5) (N := 11) hx hb hts hh0 hown hK.1 hP 0 rfl rfl 4 (by decide) hh4 (fun _ h9 => h9) rfl dX5_share_77 ?_
            refine lv_iload_n hx hb dX5_share_80 rfl (lv_at hl 1 rfl) ?_
            refine va_iald hx hb hK.1 hP 1 0 rfl rfl iz29 dX5_share_81 (lv_topi (fun u81 eu81 => ?_))
            have eu : z29 = u81 := ez29.trans eu81.symm
            subst eu
            refine lv_iconst (v := -1) hx hb dX5_share_82 (by decide) ?_
            refine lv_icmp_ne (tgt := 100) hx hb dX5_share_83 (by decide) (fun q => absurd c31 q) (fun _ => ?_)
            refine lv_aload_n hx hb dX5_share_86 rfl (lv_at hl 2 rfl) ?_
            refine va_get (D := D) (ci := 5) (v := .ref (aE 7)) (C := RX5) (T := TX5) (N := 11) hx hb hts hh0 hown hK.1 hP 0 rfl rfl 10 (by decide) hh2 (fun _ h9 => h9) rfl dX5_share_87 ?_
            refine lv_aload_n hx hb dX5_share_90 rfl (lv_at hl 2 rfl) ?_
            refine va_get (D := D) (ci := 5) (v := .ref (aE 2)) (C := RX5) (T := TX5) (N := 11) hx hb hts hh0 hown hK.1 hP 0 rfl rfl 5 (by decide) hh7 (fun _ h9 => h9) rfl dX5_share_91 ?_
            refine lv_iload_n hx hb dX5_share_94 rfl (lv_at hl 1 rfl) ?_
            refine va_iald hx hb hK.1 hP 2 0 rfl rfl iz43 dX5_share_95 (lv_topi (fun u95 eu95 => ?_))
            have eu : z43 = u95 := ez43.trans eu95.symm
            subst eu
            refine lv_iconst (v := 1) hx hb dX5_share_96 (by decide) ?_
            refine lv_iadd hx hb dX5_share_97 ?_
            refine lv_iload_n hx hb dX5_share_98 rfl (lv_at hl 0 rfl) ?_
            refine va_iast hx hb hK.1 hP hD hS 7 0 rfl rfl iz46 dX5_share_99 (fun H locs hP hD hS => ?_)
            replace hP : va_P D vwCl (wX5 g aE e_count e_worst e_expected (e_classCount_20 + (1 : Int32)) e_tests e_actions e_extents e_depths e_classes_20 e_lowest_20 (upd e_leafClasses_20 (z43 + (1 : Int32)).toNatClampNeg e_classCount_20) ++ (wX4 g aT t_conditions t_cases t_rules t_defaultAction t_sizes t_strides t_costs t_weights t_sets t_actions t_rulesWith)) H := hP
            replace hD : va_D (va_A (wX5 g aE e_count e_worst e_expected e_classCount e_tests e_actions e_extents e_depths e_classes e_lowest e_leafClasses ++ (wX4 g aT t_conditions t_cases t_rules t_defaultAction t_sizes t_strides t_costs t_weights t_sets t_actions t_rulesWith)) s.heap.size) (wX5 g aE e_count e_worst e_expected (e_classCount_20 + (1 : Int32)) e_tests e_actions e_extents e_depths e_classes_20 e_lowest_20 (upd e_leafClasses_20 (z43 + (1 : Int32)).toNatClampNeg e_classCount_20) ++ (wX4 g aT t_conditions t_cases t_rules t_defaultAction t_sizes t_strides t_costs t_weights t_sets t_actions t_rulesWith)) := hD
            refine lv_aload_n hx hb dX5_share_100 rfl (lv_at hl 2 rfl) ?_
            refine va_get (D := D) (ci := 5) (v := .ref (aE 5)) (C := RX5) (T := TX5) (N := 11) hx hb hts hh0 hown hK.1 hP 0 rfl rfl 8 (by decide) hh5 (fun _ h9 => h9) rfl dX5_share_101 ?_
            refine lv_iload_n hx hb dX5_share_104 rfl (lv_at hl 1 rfl) ?_
            refine lv_iload_n hx hb dX5_share_105 rfl (lv_at hl 0 rfl) ?_
            refine va_iast hx hb hK.1 hP hD hS 5 0 rfl rfl iz29 dX5_share_106 (fun H locs hP hD hS => ?_)
            replace hP : va_P D vwCl (wX5 g aE e_count e_worst e_expected (e_classCount_20 + (1 : Int32)) e_tests e_actions e_extents e_depths (upd e_classes_20 v2_20.toNatClampNeg e_classCount_20) e_lowest_20 (upd e_leafClasses_20 (z43 + (1 : Int32)).toNatClampNeg e_classCount_20) ++ (wX4 g aT t_conditions t_cases t_rules t_defaultAction t_sizes t_strides t_costs t_weights t_sets t_actions t_rulesWith)) H := hP
            replace hD : va_D (va_A (wX5 g aE e_count e_worst e_expected e_classCount e_tests e_actions e_extents e_depths e_classes e_lowest e_leafClasses ++ (wX4 g aT t_conditions t_cases t_rules t_defaultAction t_sizes t_strides t_costs t_weights t_sets t_actions t_rulesWith)) s.heap.size) (wX5 g aE e_count e_worst e_expected (e_classCount_20 + (1 : Int32)) e_tests e_actions e_extents e_depths (upd e_classes_20 v2_20.toNatClampNeg e_classCount_20) e_lowest_20 (upd e_leafClasses_20 (z43 + (1 : Int32)).toNatClampNeg e_classCount_20) ++ (wX4 g aT t_conditions t_cases t_rules t_defaultAction t_sizes t_strides t_costs t_weights t_sets t_actions t_rulesWith)) := hD
            refine lv_aload_n hx hb dX5_share_107 rfl (lv_at hl 2 rfl) ?_
            refine va_get (D := D) (ci := 5) (v := .ref (aE 6)) (C := RX5) (T := TX5) (N := 11) hx hb hts hh0 hown hK.1 hP 0 rfl rfl 9 (by decide) hh6 (fun _ h9 => h9) rfl dX5_share_108 ?_
            refine lv_iload_n hx hb dX5_share_111 rfl (lv_at hl 0 rfl) ?_
            refine lv_iload_n hx hb dX5_share_112 rfl (lv_at hl 1 rfl) ?_
            have ib113 := ix_in h
            replace h := ix_k h
            refine va_iast hx hb hK.1 hP hD hS 6 0 rfl rfl ib113 dX5_share_113 (fun H locs hP hD hS => ?_)
            replace hP : va_P D vwCl (wX5 g aE e_count e_worst e_expected (e_classCount_20 + (1 : Int32)) e_tests e_actions e_extents e_depths (upd e_classes_20 v2_20.toNatClampNeg e_classCount_20) (upd e_lowest_20 e_classCount_20.toNatClampNeg v2_20) (upd e_leafClasses_20 (z43 + (1 : Int32)).toNatClampNeg e_classCount_20) ++ (wX4 g aT t_conditions t_cases t_rules t_defaultAction t_sizes t_strides t_costs t_weights t_sets t_actions t_rulesWith)) H := hP
            replace hD : va_D (va_A (wX5 g aE e_count e_worst e_expected e_classCount e_tests e_actions e_extents e_depths e_classes e_lowest e_leafClasses ++ (wX4 g aT t_conditions t_cases t_rules t_defaultAction t_sizes t_strides t_costs t_weights t_sets t_actions t_rulesWith)) s.heap.size) (wX5 g aE e_count e_worst e_expected (e_classCount_20 + (1 : Int32)) e_tests e_actions e_extents e_depths (upd e_classes_20 v2_20.toNatClampNeg e_classCount_20) (upd e_lowest_20 e_classCount_20.toNatClampNeg v2_20) (upd e_leafClasses_20 (z43 + (1 : Int32)).toNatClampNeg e_classCount_20) ++ (wX4 g aT t_conditions t_cases t_rules t_defaultAction t_sizes t_strides t_costs t_weights t_sets t_actions t_rulesWith)) := hD
            refine lv_iinc (v := (v2_20 + (-1))) (lv' := [(2, .int (v2_20 + (-1))), (3, .int e_classCount_20), (0, .ref (aE 0)), (1, .ref (aT 0))]) hx hb dX5_share_114 hl (k := 1) rfl rfl (by decide) rfl (fun ls hl => ?_)
            refine lv_goto (tgt := 20) hx hb dX5_share_117 (by decide) ?_
            replace h := Option.some.inj h
            subst h
            exact ih1 (v2_20 + (-1)) (e_classCount_20 + (1 : Int32)) (upd e_classes_20 v2_20.toNatClampNeg e_classCount_20) (upd e_lowest_20 e_classCount_20.toNatClampNeg v2_20) (upd e_leafClasses_20 (z43 + (1 : Int32)).toNatClampNeg e_classCount_20) H locs hP hD hS (wk_l k1) ls (lv_sub hl [0, 2, 3] rfl)
  exact lp20 5000 (e_count - (1 : Int32)) (0 : Int32) e_classes e_lowest (fil 11 (-1 : Int32) e_leafClasses) H locs hP hD hS h ls (lv_sub hl [0, 1, 2] rfl)
theorem pd_X5_build : yX5_build.cls ≠ "java/lang/invoke/MethodHandle" ∧ yX5_build.cls ≠ "java/lang/invoke/VarHandle" ∧ (parseMethodDescriptor yX5_build.desc).map (fun d => d.parameters.length) = some 2 := by decide +kernel
def f_X5_build (e_count : Int32) (e_worst : Int32) (e_expected : Int64) (e_classCount : Int32) (e_tests : Nat → Int32) (e_actions : Nat → Int32) (e_extents : Nat → Int32) (e_depths : Nat → Int32) (e_classes : Nat → Int32) (e_lowest : Nat → Int32) (e_leafClasses : Nat → Int32) (p_cubes : Int32) (p_steps : Nat → Int32) (p_weights : Nat → Int32) (p_actions : Nat → Int32) (p_ranks : Nat → Int64) (t_conditions : Int32) (t_sizes : Nat → Int32) (t_costs : Nat → Int32) : Option (Int32 × Int32 × Int64 × Int32 × (Nat → Int32) × (Nat → Int32) × (Nat → Int32) × (Nat → Int32) × (Nat → Int32) × (Nat → Int32) × (Nat → Int32)) :=
  (Option.bind (f_X1_lowestCost p_cubes p_ranks) fun z12 => (Option.bind (f_X1_whole p_cubes) fun z22 => (bd6 (f_X5_place 6 (0 : Int32) (0 : Int32) e_tests e_actions e_extents e_depths p_steps p_weights p_actions p_ranks t_conditions t_sizes t_costs z22 (0 : Int32) (0 : Int32)) fun w27_0 w27_1 w27_2 w27_3 w27_4 w27_5 => (bd4 (f_X5_share w27_0 e_classCount w27_2 w27_3 w27_4 e_classes e_lowest e_leafClasses t_sizes) fun w32_0 w32_1 w32_2 w32_3 => (some (w27_0, w27_1, z12, w32_0, w27_2, w27_3, w27_4, w27_5, w32_1, w32_2, w32_3))))))
set_option maxHeartbeats 4000000 in
set_option maxRecDepth 100000 in
theorem c_X5_build (l : Launch) (sz : Nat) (D : va_G) (g : Nat → ClassId) (aE aP aT : Nat → Nat) (e_count : Int32) (e_worst : Int32) (e_expected : Int64) (e_classCount : Int32) (e_tests : Nat → Int32) (e_actions : Nat → Int32) (e_extents : Nat → Int32) (e_depths : Nat → Int32) (e_classes : Nat → Int32) (e_lowest : Nat → Int32) (e_leafClasses : Nat → Int32) (p_cubes : Int32) (p_steps : Nat → Int32) (p_weights : Nat → Int32) (p_actions : Nat → Int32) (p_ranks : Nat → Int64) (t_conditions : Int32) (t_cases : Int32) (t_rules : Int32) (t_defaultAction : Int32) (t_sizes : Nat → Int32) (t_strides : Nat → Int32) (t_costs : Nat → Int32) (t_weights : Nat → Int32) (t_sets : Nat → Int32) (t_actions : Nat → Int32) (t_rulesWith : Nat → Int32)  (e_count_n : Int32) (e_worst_n : Int32) (e_expected_n : Int64) (e_classCount_n : Int32) (e_tests_n : Nat → Int32) (e_actions_n : Nat → Int32) (e_extents_n : Nat → Int32) (e_depths_n : Nat → Int32) (e_classes_n : Nat → Int32) (e_lowest_n : Nat → Int32) (e_leafClasses_n : Nat → Int32) (hf : f_X5_build e_count e_worst e_expected e_classCount e_tests e_actions e_extents e_depths e_classes e_lowest e_leafClasses p_cubes p_steps p_weights p_actions p_ranks t_conditions t_sizes t_costs = some (e_count_n, e_worst_n, e_expected_n, e_classCount_n, e_tests_n, e_actions_n, e_extents_n, e_depths_n, e_classes_n, e_lowest_n, e_leafClasses_n)) : CM l yX5_build wsX5_build 11 293 sz D g [.ref (aE 0), .ref (aP 0), .ref (aT 0)] (wX5 g aE e_count e_worst e_expected e_classCount e_tests e_actions e_extents e_depths e_classes e_lowest e_leafClasses ++ (wX1 g aP p_cubes p_steps p_weights p_actions p_ranks ++ (wX4 g aT t_conditions t_cases t_rules t_defaultAction t_sizes t_strides t_costs t_weights t_sets t_actions t_rulesWith))) (QMv D (wX5 g aE e_count e_worst e_expected e_classCount e_tests e_actions e_extents e_depths e_classes e_lowest e_leafClasses ++ (wX1 g aP p_cubes p_steps p_weights p_actions p_ranks ++ (wX4 g aT t_conditions t_cases t_rules t_defaultAction t_sizes t_strides t_costs t_weights t_sets t_actions t_rulesWith))) sz (wX5 g aE e_count_n e_worst_n e_expected_n e_classCount_n e_tests_n e_actions_n e_extents_n e_depths_n e_classes_n e_lowest_n e_leafClasses_n ++ (wX1 g aP p_cubes p_steps p_weights p_actions p_ranks ++ (wX4 g aT t_conditions t_cases t_rules t_defaultAction t_sizes t_strides t_costs t_weights t_sets t_actions t_rulesWith)))) := by
  refine Met.ofW (cc := cX5_build) (maxL := 3) (ret := none) (by decide) rfl ?_
  intro p e s m args below meth c s₁ B hml hv
  obtain ⟨rfl, hsz, hP, hK, hD0⟩ := hv
  have hx := B.exec
  have hb := B.bytes
  have hr := B.returns
  have hts := atoms_spec (ws := wsX5_build) B.pre
  have hown : s.vm.findClass RX5 = some m.cls := findClass_of_methodNamed B.named
  have hlocks := B.notSynchronized
  have hh0 := (show ∀ w ∈ wsX50, w ∈ wsX5_build from by decide +kernel)
  have hh1 := hts (.fieldLink RX5 33 "DecisionTableCompiler$Tree" "count" "I") (by decide +kernel)
  have hh2 := hts (.fieldLink RX5 37 "DecisionTableCompiler$Tree" "worst" "I") (by decide +kernel)
  have hh3 := hts (.fieldLink RX5 46 "DecisionTableCompiler$Tree" "expected" "J") (by decide +kernel)
  subst hsz
  have hD := hD0.self (sz := s.heap.size)
  have hA : ∀ q : Nat, s.heap.size ≤ q → va_A (wX5 g aE e_count e_worst e_expected e_classCount e_tests e_actions e_extents e_depths e_classes e_lowest e_leafClasses ++ (wX1 g aP p_cubes p_steps p_weights p_actions p_ranks ++ (wX4 g aT t_conditions t_cases t_rules t_defaultAction t_sizes t_strides t_costs t_weights t_sets t_actions t_rulesWith))) s.heap.size q := fun q h => Or.inr h
  have hS : va_S (va_A (wX5 g aE e_count e_worst e_expected e_classCount e_tests e_actions e_extents e_depths e_classes e_lowest e_leafClasses ++ (wX1 g aP p_cubes p_steps p_weights p_actions p_ranks ++ (wX4 g aT t_conditions t_cases t_rules t_defaultAction t_sizes t_strides t_costs t_weights t_sets t_actions t_rulesWith))) s.heap.size) s.heap s.heap [] := va_S.rf
  have hl := lv_entry ([.ref (aE 0), .ref (aP 0), .ref (aT 0)]) (n := 3) (Nat.le_of_ble_eq_true rfl)
  rw [lg_entry_eq]
  generalize (lg_sl ([.ref (aE 0), .ref (aP 0), .ref (aT 0)]) ++ List.replicate (3 - (lg_sl ([.ref (aE 0), .ref (aP 0), .ref (aT 0)])).length) Slot.unset).toArray = ls at hl ⊢
  replace hl : lv_has ls 3 [(0, .ref (aE 0)), (1, .ref (aP 0)), (2, .ref (aT 0))] := hl
  have h := hf
  unfold f_X5_build at h
  obtain ⟨H, hH⟩ : ∃ H, H = s.heap := ⟨_, rfl⟩
  obtain ⟨locs, hlc⟩ : ∃ q : List Loc, q = [] := ⟨_, rfl⟩
  have hS : va_S (va_A (wX5 g aE e_count e_worst e_expected e_classCount e_tests e_actions e_extents e_depths e_classes e_lowest e_leafClasses ++ (wX1 g aP p_cubes p_steps p_weights p_actions p_ranks ++ (wX4 g aT t_conditions t_cases t_rules t_defaultAction t_sizes t_strides t_costs t_weights t_sets t_actions t_rulesWith))) s.heap.size) s.heap H locs := by rw [hH, hlc]; exact hS
  replace hP : va_P D vwCl (wX5 g aE e_count e_worst e_expected e_classCount e_tests e_actions e_extents e_depths e_classes e_lowest e_leafClasses ++ (wX1 g aP p_cubes p_steps p_weights p_actions p_ranks ++ (wX4 g aT t_conditions t_cases t_rules t_defaultAction t_sizes t_strides t_costs t_weights t_sets t_actions t_rulesWith))) H := by rw [hH]; exact hP
  suffices hW : W p l e (headSpec wsX5_build ({ frames := 11, cells := 0, slots := 0, locals := 293 })).room s m ([.ref (aE 0), .ref (aP 0), .ref (aT 0)] : List Value).toArray below meth c H locs 0 0 (MQ below (QMv D (wX5 g aE e_count e_worst e_expected e_classCount e_tests e_actions e_extents e_depths e_classes e_lowest e_leafClasses ++ (wX1 g aP p_cubes p_steps p_weights p_actions p_ranks ++ (wX4 g aT t_conditions t_cases t_rules t_defaultAction t_sizes t_strides t_costs t_weights t_sets t_actions t_rulesWith))) s.heap.size (wX5 g aE e_count_n e_worst_n e_expected_n e_classCount_n e_tests_n e_actions_n e_extents_n e_depths_n e_classes_n e_lowest_n e_leafClasses_n ++ (wX1 g aP p_cubes p_steps p_weights p_actions p_ranks ++ (wX4 g aT t_conditions t_cases t_rules t_defaultAction t_sizes t_strides t_costs t_weights t_sets t_actions t_rulesWith)))) ([.ref (aE 0), .ref (aP 0), .ref (aT 0)] : List Value).toArray s 0 0 (va_A (wX5 g aE e_count e_worst e_expected e_classCount e_tests e_actions e_extents e_depths e_classes e_lowest e_leafClasses ++ (wX1 g aP p_cubes p_steps p_weights p_actions p_ranks ++ (wX4 g aT t_conditions t_cases t_rules t_defaultAction t_sizes t_strides t_costs t_weights t_sets t_actions t_rulesWith))) s.heap.size)) (F0 m 0 ls []) by rw [hH, hlc] at hW; exact hW
  clear hH hlc
  refine lv_aload_n hx hb dX5_build_0 rfl (lv_at hl 0 rfl) ?_
  refine lv_iconst (v := 0) hx hb dX5_build_1 (by decide) ?_
  refine va_put (D := D) (ci := 5) (v := .int (0 : Int32)) (ty := .int) (C := RX5) (T := TX5) (N := 11) hx hb hts hh0 tyX5 tyX5_ok nmX5 hown hK.1 hP hD hS 0 rfl rfl 0 (by decide) hh1 (fun _ h9 => h9) rfl (by decide +kernel) rfl rfl (Nat.le_of_ble_eq_true rfl) dX5_build_2 (fun H locs hP hD hS => ?_)
  replace hP : va_P D vwCl (wX5 g aE (0 : Int32) e_worst e_expected e_classCount e_tests e_actions e_extents e_depths e_classes e_lowest e_leafClasses ++ (wX1 g aP p_cubes p_steps p_weights p_actions p_ranks ++ (wX4 g aT t_conditions t_cases t_rules t_defaultAction t_sizes t_strides t_costs t_weights t_sets t_actions t_rulesWith))) H := hP
  replace hD : va_D (va_A (wX5 g aE e_count e_worst e_expected e_classCount e_tests e_actions e_extents e_depths e_classes e_lowest e_leafClasses ++ (wX1 g aP p_cubes p_steps p_weights p_actions p_ranks ++ (wX4 g aT t_conditions t_cases t_rules t_defaultAction t_sizes t_strides t_costs t_weights t_sets t_actions t_rulesWith))) s.heap.size) (wX5 g aE (0 : Int32) e_worst e_expected e_classCount e_tests e_actions e_extents e_depths e_classes e_lowest e_leafClasses ++ (wX1 g aP p_cubes p_steps p_weights p_actions p_ranks ++ (wX4 g aT t_conditions t_cases t_rules t_defaultAction t_sizes t_strides t_costs t_weights t_sets t_actions t_rulesWith))) := hD
  refine lv_aload_n hx hb dX5_build_5 rfl (lv_at hl 0 rfl) ?_
  refine lv_iconst (v := 0) hx hb dX5_build_6 (by decide) ?_
  refine va_put (D := D) (ci := 5) (v := .int (0 : Int32)) (ty := .int) (C := RX5) (T := TX5) (N := 11) hx hb hts hh0 tyX5 tyX5_ok nmX5 hown hK.1 hP hD hS 0 rfl rfl 1 (by decide) hh2 (fun _ h9 => h9) rfl (by decide +kernel) rfl rfl (Nat.le_of_ble_eq_true rfl) dX5_build_7 (fun H locs hP hD hS => ?_)
  replace hP : va_P D vwCl (wX5 g aE (0 : Int32) (0 : Int32) e_expected e_classCount e_tests e_actions e_extents e_depths e_classes e_lowest e_leafClasses ++ (wX1 g aP p_cubes p_steps p_weights p_actions p_ranks ++ (wX4 g aT t_conditions t_cases t_rules t_defaultAction t_sizes t_strides t_costs t_weights t_sets t_actions t_rulesWith))) H := hP
  replace hD : va_D (va_A (wX5 g aE e_count e_worst e_expected e_classCount e_tests e_actions e_extents e_depths e_classes e_lowest e_leafClasses ++ (wX1 g aP p_cubes p_steps p_weights p_actions p_ranks ++ (wX4 g aT t_conditions t_cases t_rules t_defaultAction t_sizes t_strides t_costs t_weights t_sets t_actions t_rulesWith))) s.heap.size) (wX5 g aE (0 : Int32) (0 : Int32) e_expected e_classCount e_tests e_actions e_extents e_depths e_classes e_lowest e_leafClasses ++ (wX1 g aP p_cubes p_steps p_weights p_actions p_ranks ++ (wX4 g aT t_conditions t_cases t_rules t_defaultAction t_sizes t_strides t_costs t_weights t_sets t_actions t_rulesWith))) := hD
  refine lv_aload_n hx hb dX5_build_10 rfl (lv_at hl 0 rfl) ?_
  refine lv_aload_n hx hb dX5_build_11 rfl (lv_at hl 1 rfl) ?_
  obtain ⟨z12, e_12, h⟩ := bd_s h
  refine cr_l (va_runV (As := []) (rest := [.ref (aE 0)]) ⟨hx, hb, hml, hown, hts⟩ (c_X1_lowestCost l D g aP p_cubes p_steps p_weights p_actions p_ranks z12 e_12) (cwV 0 hts gX5_build_X1_lowestCost rfl rfl rfl ⟨rfl, pd_X1_lowestCost⟩ ⟨Nat.le_of_ble_eq_true rfl, Nat.le_of_ble_eq_true rfl⟩) (pr_v hK (hP.sub (ws' := (wX1 g aP p_cubes p_steps p_weights p_actions p_ranks)) [8, 9, 10, 11, 12] rfl) (q0 := 0) (ci := 1) rfl rfl rfl) rfl rfl hl.1 rfl (lv_room (Nat.le_of_ble_eq_true rfl)) dX5_build_12 ⟨Nat.zero_le _, Nat.zero_le _⟩) ?_
  refine va_put (D := D) (ci := 5) (v := .long z12) (ty := .long) (C := RX5) (T := TX5) (N := 11) hx hb hts hh0 tyX5 tyX5_ok nmX5 hown hK.1 hP hD hS 0 rfl rfl 2 (by decide) hh3 (fun _ h9 => h9) rfl (by decide +kernel) rfl rfl (Nat.le_of_ble_eq_true rfl) dX5_build_15 (fun H locs hP hD hS => ?_)
  replace hP : va_P D vwCl (wX5 g aE (0 : Int32) (0 : Int32) z12 e_classCount e_tests e_actions e_extents e_depths e_classes e_lowest e_leafClasses ++ (wX1 g aP p_cubes p_steps p_weights p_actions p_ranks ++ (wX4 g aT t_conditions t_cases t_rules t_defaultAction t_sizes t_strides t_costs t_weights t_sets t_actions t_rulesWith))) H := hP
  replace hD : va_D (va_A (wX5 g aE e_count e_worst e_expected e_classCount e_tests e_actions e_extents e_depths e_classes e_lowest e_leafClasses ++ (wX1 g aP p_cubes p_steps p_weights p_actions p_ranks ++ (wX4 g aT t_conditions t_cases t_rules t_defaultAction t_sizes t_strides t_costs t_weights t_sets t_actions t_rulesWith))) s.heap.size) (wX5 g aE (0 : Int32) (0 : Int32) z12 e_classCount e_tests e_actions e_extents e_depths e_classes e_lowest e_leafClasses ++ (wX1 g aP p_cubes p_steps p_weights p_actions p_ranks ++ (wX4 g aT t_conditions t_cases t_rules t_defaultAction t_sizes t_strides t_costs t_weights t_sets t_actions t_rulesWith))) := hD
  refine lv_aload_n hx hb dX5_build_18 rfl (lv_at hl 0 rfl) ?_
  refine lv_aload_n hx hb dX5_build_19 rfl (lv_at hl 1 rfl) ?_
  refine lv_aload_n hx hb dX5_build_20 rfl (lv_at hl 2 rfl) ?_
  refine lv_aload_n hx hb dX5_build_21 rfl (lv_at hl 1 rfl) ?_
  obtain ⟨z22, e_22, h⟩ := bd_s h
  refine cr_i (va_runV (As := []) (rest := [.ref (aT 0), .ref (aP 0), .ref (aE 0)]) ⟨hx, hb, hml, hown, hts⟩ (c_X1_whole l D g aP p_cubes p_steps p_weights p_actions p_ranks z22 e_22) (cwV 0 hts gX5_build_X1_whole rfl rfl rfl ⟨rfl, pd_X1_whole⟩ ⟨Nat.le_of_ble_eq_true rfl, Nat.le_of_ble_eq_true rfl⟩) (pr_v hK (hP.sub (ws' := (wX1 g aP p_cubes p_steps p_weights p_actions p_ranks)) [8, 9, 10, 11, 12] rfl) (q0 := 0) (ci := 1) rfl rfl rfl) rfl rfl hl.1 rfl (lv_room (Nat.le_of_ble_eq_true rfl)) dX5_build_22 ⟨Nat.zero_le _, Nat.zero_le _⟩) ?_
  refine lv_iconst (v := 0) hx hb dX5_build_25 (by decide) ?_
  refine lv_iconst (v := 0) hx hb dX5_build_26 (by decide) ?_
  obtain ⟨w27_0, w27_1, w27_2, w27_3, w27_4, w27_5, e_27, h⟩ := bd6_s h
  refine cm_v (ws := (wX5 g aE (0 : Int32) (0 : Int32) z12 e_classCount e_tests e_actions e_extents e_depths e_classes e_lowest e_leafClasses ++ (wX1 g aP p_cubes p_steps p_weights p_actions p_ranks ++ (wX4 g aT t_conditions t_cases t_rules t_defaultAction t_sizes t_strides t_costs t_weights t_sets t_actions t_rulesWith)))) (isC := [0, 1, 2, 3, 4, 5, 6, 7, 8, 9, 10, 11, 12, 13, 14, 15, 16, 17, 18, 19, 20]) (va_runV (As := [.ref (aP 0), .ref (aT 0), .int z22, .int (0 : Int32), .int (0 : Int32)]) (rest := []) ⟨hx, hb, hml, hown, hts⟩ (c_X5_place 6 l H.size D g aE aP aT (0 : Int32) (0 : Int32) z12 e_classCount e_tests e_actions e_extents e_depths e_classes e_lowest e_leafClasses p_cubes p_steps p_weights p_actions p_ranks t_conditions t_cases t_rules t_defaultAction t_sizes t_strides t_costs t_weights t_sets t_actions t_rulesWith z22 (0 : Int32) (0 : Int32) w27_0 w27_1 w27_2 w27_3 w27_4 w27_5 e_27) (cwV 5 hts gX5_build_X5_place rfl rfl rfl ⟨rfl, pd_X5_place⟩ ⟨Nat.le_of_ble_eq_true rfl, Nat.le_of_ble_eq_true rfl⟩) (pw_v hK hP hD (q0 := 0) (ci := 5) rfl rfl rfl) rfl rfl hl.1 rfl (lv_room (Nat.le_of_ble_eq_true rfl)) dX5_build_27 ⟨Nat.zero_le _, Nat.zero_le _⟩) hP hD hS hA rfl [] (wr := []) rfl (by decide) (by decide) [0, 1, 2, 3, 4, 5, 6, 7, 8, 9, 10, 11, 12, 13, 14, 15, 16, 17, 18, 19, 20] (w2 := (wX5 g aE w27_0 w27_1 z12 e_classCount w27_2 w27_3 w27_4 w27_5 e_classes e_lowest e_leafClasses ++ (wX1 g aP p_cubes p_steps p_weights p_actions p_ranks ++ (wX4 g aT t_conditions t_cases t_rules t_defaultAction t_sizes t_strides t_costs t_weights t_sets t_actions t_rulesWith)))) rfl (by decide) (fun H locs hP hD hS => ?_)
  refine lv_aload_n hx hb dX5_build_30 rfl (lv_at hl 0 rfl) ?_
  refine lv_aload_n hx hb dX5_build_31 rfl (lv_at hl 2 rfl) ?_
  obtain ⟨w32_0, w32_1, w32_2, w32_3, e_32, h⟩ := bd4_s h
  refine cm_v (ws := (wX5 g aE w27_0 w27_1 z12 e_classCount w27_2 w27_3 w27_4 w27_5 e_classes e_lowest e_leafClasses ++ (wX1 g aP p_cubes p_steps p_weights p_actions p_ranks ++ (wX4 g aT t_conditions t_cases t_rules t_defaultAction t_sizes t_strides t_costs t_weights t_sets t_actions t_rulesWith)))) (isC := [0, 1, 2, 3, 4, 5, 6, 7, 13, 14, 15, 16, 17, 18, 19, 20]) (va_runV (As := [.ref (aT 0)]) (rest := []) ⟨hx, hb, hml, hown, hts⟩ (c_X5_share l H.size D g aE aT w27_0 w27_1 z12 e_classCount w27_2 w27_3 w27_4 w27_5 e_classes e_lowest e_leafClasses t_conditions t_cases t_rules t_defaultAction t_sizes t_strides t_costs t_weights t_sets t_actions t_rulesWith w32_0 w32_1 w32_2 w32_3 e_32) (cwV 1 hts gX5_build_X5_share rfl rfl rfl ⟨rfl, pd_X5_share⟩ ⟨Nat.le_of_ble_eq_true rfl, Nat.le_of_ble_eq_true rfl⟩) (pw_v hK (hP.sub (ws' := (wX5 g aE w27_0 w27_1 z12 e_classCount w27_2 w27_3 w27_4 w27_5 e_classes e_lowest e_leafClasses ++ (wX4 g aT t_conditions t_cases t_rules t_defaultAction t_sizes t_strides t_costs t_weights t_sets t_actions t_rulesWith))) [0, 1, 2, 3, 4, 5, 6, 7, 13, 14, 15, 16, 17, 18, 19, 20] rfl) (hD.sub (ws' := (wX5 g aE w27_0 w27_1 z12 e_classCount w27_2 w27_3 w27_4 w27_5 e_classes e_lowest e_leafClasses ++ (wX4 g aT t_conditions t_cases t_rules t_defaultAction t_sizes t_strides t_costs t_weights t_sets t_actions t_rulesWith))) [0, 1, 2, 3, 4, 5, 6, 7, 13, 14, 15, 16, 17, 18, 19, 20] (by decide) rfl) (q0 := 0) (ci := 5) rfl rfl rfl) rfl rfl hl.1 rfl (lv_room (Nat.le_of_ble_eq_true rfl)) dX5_build_32 ⟨Nat.zero_le _, Nat.zero_le _⟩) hP hD hS hA rfl [8, 9, 10, 11, 12] (wr := (wX1 g aP p_cubes p_steps p_weights p_actions p_ranks)) rfl (by decide) (by decide) [5, 6, 7, 8, 9, 10, 11, 12, 0, 1, 2, 3, 4, 13, 14, 15, 16, 17, 18, 19, 20] (w2 := (wX5 g aE w27_0 w27_1 z12 w32_0 w27_2 w27_3 w27_4 w27_5 w32_1 w32_2 w32_3 ++ (wX1 g aP p_cubes p_steps p_weights p_actions p_ranks ++ (wX4 g aT t_conditions t_cases t_rules t_defaultAction t_sizes t_strides t_costs t_weights t_sets t_actions t_rulesWith)))) rfl (by decide) (fun H locs hP hD hS => ?_)
  replace h := Option.some.inj h
  have hj0 := (Prod.mk.inj h).1
  have hg0 := (Prod.mk.inj h).2
  have hj1 := (Prod.mk.inj hg0).1
  have hg1 := (Prod.mk.inj hg0).2
  have hj2 := (Prod.mk.inj hg1).1
  have hg2 := (Prod.mk.inj hg1).2
  have hj3 := (Prod.mk.inj hg2).1
  have hg3 := (Prod.mk.inj hg2).2
  have hj4 := (Prod.mk.inj hg3).1
  have hg4 := (Prod.mk.inj hg3).2
  have hj5 := (Prod.mk.inj hg4).1
  have hg5 := (Prod.mk.inj hg4).2
  have hj6 := (Prod.mk.inj hg5).1
  have hg6 := (Prod.mk.inj hg5).2
  have hj7 := (Prod.mk.inj hg6).1
  have hg7 := (Prod.mk.inj hg6).2
  have hj8 := (Prod.mk.inj hg7).1
  have hg8 := (Prod.mk.inj hg7).2
  have hj9 := (Prod.mk.inj hg8).1
  have hg9 := (Prod.mk.inj hg8).2
  clear hg0
  clear hg1
  clear hg2
  clear hg3
  clear hg4
  clear hg5
  clear hg6
  clear hg7
  clear hg8
  subst hj0
  subst hj1
  subst hj2
  subst hj3
  subst hj4
  subst hj5
  subst hj6
  subst hj7
  subst hj8
  subst hj9
  subst hg9
  exact W.vret hx hb hr (fun t ht hW => ⟨⟨(), rfl, trivial, by rw [ht]; exact hP, hD⟩, hS.F ht⟩) hS.2.2 dX5_build_35
theorem pd_X5_branch : yX5_branch.cls ≠ "java/lang/invoke/MethodHandle" ∧ yX5_branch.cls ≠ "java/lang/invoke/VarHandle" ∧ (parseMethodDescriptor yX5_branch.desc).map (fun d => d.parameters.length) = some 2 := by decide +kernel
def f_X5_branch_s7 (e_count : Int32) (e_extents : Nat → Int32) (x2 : Int32) (v3_7 : Int32) (v4_7 : Int32) : Option ((Int32 × Int32) ⊕ (Int32)) :=
  (if x2 ≤ v4_7 then (some (.inr v3_7)) else (if e_count ≤ v3_7 then (some (.inr v3_7)) else (rd 781 e_extents v3_7 fun z27 => (some (.inl ((v3_7 + z27), (v4_7 + 1)))))))
def f_X5_branch (e_count : Int32) (e_extents : Nat → Int32) (x1 : Int32) (x2 : Int32) : Option (Int32) :=
  (wl (fun q => f_X5_branch_s7 e_count e_extents x2 q.1 q.2) 5000 ((x1 + (1 : Int32)), (0 : Int32)))
set_option maxHeartbeats 4000000 in
set_option maxRecDepth 100000 in
theorem c_X5_branch (l : Launch) (D : va_G) (g : Nat → ClassId) (aE : Nat → Nat) (e_count : Int32) (e_worst : Int32) (e_expected : Int64) (e_classCount : Int32) (e_tests : Nat → Int32) (e_actions : Nat → Int32) (e_extents : Nat → Int32) (e_depths : Nat → Int32) (e_classes : Nat → Int32) (e_lowest : Nat → Int32) (e_leafClasses : Nat → Int32) (x1 : Int32) (x2 : Int32) (r : Int32) (hf : f_X5_branch e_count e_extents x1 x2 = some r) : CR l yX5_branch wsX5_branch 0 0 D g [.ref (aE 0), .int x1, .int x2] (wX5 g aE e_count e_worst e_expected e_classCount e_tests e_actions e_extents e_depths e_classes e_lowest e_leafClasses) (QRi r) := by
  refine Met.ofW (cc := cX5_branch) (maxL := 5) (ret := (some .int)) (by decide) rfl ?_
  intro p e s m args below meth c s₁ B hml hv
  obtain ⟨rfl, hP, hK⟩ := hv
  have hx := B.exec
  have hb := B.bytes
  have hr := B.returns
  have hts := atoms_spec (ws := wsX5_branch) B.pre
  have hown : s.vm.findClass RX5 = some m.cls := findClass_of_methodNamed B.named
  have hlocks := B.notSynchronized
  have hh0 := (show ∀ w ∈ wsX50, w ∈ wsX5_branch from by decide +kernel)
  have hh1 := hts (.fieldLink RX5 33 "DecisionTableCompiler$Tree" "count" "I") (by decide +kernel)
  have hh2 := hts (.fieldLink RX5 18 "DecisionTableCompiler$Tree" "extents" "[I") (by decide +kernel)
  have hl := lv_entry ([.ref (aE 0), .int x1, .int x2]) (n := 5) (Nat.le_of_ble_eq_true rfl)
  rw [lg_entry_eq]
  generalize (lg_sl ([.ref (aE 0), .int x1, .int x2]) ++ List.replicate (5 - (lg_sl ([.ref (aE 0), .int x1, .int x2])).length) Slot.unset).toArray = ls at hl ⊢
  replace hl : lv_has ls 5 [(0, .ref (aE 0)), (1, .int x1), (2, .int x2)] := hl
  have h := hf
  unfold f_X5_branch at h
  refine lv_iload_n hx hb dX5_branch_0 rfl (lv_at hl 1 rfl) ?_
  refine lv_iconst (v := 1) hx hb dX5_branch_1 (by decide) ?_
  refine lv_iadd hx hb dX5_branch_2 ?_
  refine lv_istore_n (lv' := [(3, .int (x1 + (1 : Int32))), (0, .ref (aE 0)), (1, .int x1), (2, .int x2)]) hx hb dX5_branch_3 rfl hl (by decide) rfl (fun ls hl => ?_)
  refine lv_iconst (v := 0) hx hb dX5_branch_4 (by decide) ?_
  refine lv_istore (lv' := [(4, .int (0 : Int32)), (3, .int (x1 + (1 : Int32))), (0, .ref (aE 0)), (1, .int x1), (2, .int x2)]) hx hb dX5_branch_5 hl (by decide) rfl (fun ls hl => ?_)
  have lp7 : ∀ (n : Nat) (v3_7 : Int32) (v4_7 : Int32), wl (fun q => f_X5_branch_s7 e_count e_extents x2 q.1 q.2) n (v3_7, v4_7) = some r → ∀ ls : Array Slot, lv_has ls 5 [(4, .int v4_7), (3, .int v3_7), (0, .ref (aE 0)), (2, .int x2)] → W p l e (headSpec wsX5_branch ({ frames := 0, cells := 0, slots := 0, locals := 0 })).room s m ([.ref (aE 0), .int x1, .int x2] : List Value).toArray below meth c s.heap [] 0 0 (MQ below (QRi r) ([.ref (aE 0), .int x1, .int x2] : List Value).toArray s 0 0 (fun _ => False)) (F0 m 7 ls []) := by
    intro n
    induction n with
    | zero =>
      intro v3_7 v4_7 h
      exact wl_0 h
    | succ n ih1 =>
      intro v3_7 v4_7 h ls hl
      obtain ⟨o1, h, k1⟩ := wl_s h
      replace h : f_X5_branch_s7 e_count e_extents x2 v3_7 v4_7 = some o1 := h
      unfold f_X5_branch_s7 at h
      refine lv_iload hx hb dX5_branch_7 (lv_at hl 0 rfl) ?_
      refine lv_iload_n hx hb dX5_branch_9 rfl (lv_at hl 3 rfl) ?_
      refine lv_icmp_ge (tgt := 36) hx hb dX5_branch_10 (by decide) (fun c10 => ?_) (fun c10 => ?_)
      · replace h := ite_t c10 h
        refine lv_iload_n hx hb dX5_branch_36 rfl (lv_at hl 1 rfl) ?_
        replace h := Option.some.inj h
        subst h
        replace h := wk_r k1
        subst h
        exact W.iret hx hb hr (fun t ht hW => ⟨_, rfl, rfl, ht⟩) (fun q hq => by cases hq) dX5_branch_37
      · replace h := ite_f c10 h
        refine lv_iload_n hx hb dX5_branch_13 rfl (lv_at hl 1 rfl) ?_
        refine lv_aload_n hx hb dX5_branch_14 rfl (lv_at hl 2 rfl) ?_
        refine va_get (D := D) (ci := 5) (v := .int e_count) (C := RX5) (T := TX5) (N := 11) hx hb hts hh0 hown hK.1 hP 0 rfl rfl 0 (by decide) hh1 (fun _ h9 => h9) rfl dX5_branch_15 ?_
        refine lv_icmp_ge (tgt := 36) hx hb dX5_branch_18 (by decide) (fun c18 => ?_) (fun c18 => ?_)
        · replace h := ite_t c18 h
          refine lv_iload_n hx hb dX5_branch_36 rfl (lv_at hl 1 rfl) ?_
          replace h := Option.some.inj h
          subst h
          replace h := wk_r k1
          subst h
          exact W.iret hx hb hr (fun t ht hW => ⟨_, rfl, rfl, ht⟩) (fun q hq => by cases hq) dX5_branch_37
        · replace h := ite_f c18 h
          refine lv_iload_n hx hb dX5_branch_21 rfl (lv_at hl 1 rfl) ?_
          refine lv_aload_n hx hb dX5_branch_22 rfl (lv_at hl 2 rfl) ?_
          refine va_get (D := D) (ci := 5) (v := .ref (aE 3)) (C := RX5) (T := TX5) (N := 11) hx hb hts hh0 hown hK.1 hP 0 rfl rfl 6 (by decide) hh2 (fun _ h9 => h9) rfl dX5_branch_23 ?_
          refine lv_iload_n hx hb dX5_branch_26 rfl (lv_at hl 1 rfl) ?_
          have iz27 := rd_in h
          refine va_iald hx hb hK.1 hP 3 0 rfl rfl (rd_in h) dX5_branch_27 (lv_topi (fun z27 ez27 => ?_))
          replace h := rd_k h ez27
          refine lv_iadd hx hb dX5_branch_28 ?_
          refine lv_istore_n (lv' := [(3, .int (v3_7 + z27)), (4, .int v4_7), (0, .ref (aE 0)), (2, .int x2)]) hx hb dX5_branch_29 rfl hl (by decide) rfl (fun ls hl => ?_)
          refine lv_iinc (v := (v4_7 + 1)) (lv' := [(4, .int (v4_7 + 1)), (3, .int (v3_7 + z27)), (0, .ref (aE 0)), (2, .int x2)]) hx hb dX5_branch_30 hl (k := 1) rfl rfl (by decide) rfl (fun ls hl => ?_)
          refine lv_goto (tgt := 7) hx hb dX5_branch_33 (by decide) ?_
          replace h := Option.some.inj h
          subst h
          exact ih1 (v3_7 + z27) (v4_7 + 1) (wk_l k1) ls (lv_sub hl [0, 1, 2, 3] rfl)
  exact lp7 5000 (x1 + (1 : Int32)) (0 : Int32) h ls (lv_sub hl [0, 1, 2, 4] rfl)
theorem pd_X5_leafFor : yX5_leafFor.cls ≠ "java/lang/invoke/MethodHandle" ∧ yX5_leafFor.cls ≠ "java/lang/invoke/VarHandle" ∧ (parseMethodDescriptor yX5_leafFor.desc).map (fun d => d.parameters.length) = some 2 := by decide +kernel
def f_X5_leafFor_s5 (e_count : Int32) (e_tests : Nat → Int32) (e_extents : Nat → Int32) (t_sizes : Nat → Int32) (t_strides : Nat → Int32) (x1 : Int32) (v3_5 : Int32) (v4_5 : Int32) : Option ((Int32 × Int32) ⊕ (Int32)) :=
  (if (4 : Int32) ≤ v4_5 then (some (.inr v3_5)) else (Option.bind (f_X5_hasNode e_count v3_5) fun z13 => (if z13 = true then (rd 781 e_tests v3_5 fun z24 => (if z24 = (-1 : Int32) then (some (.inr v3_5)) else (Option.bind (f_X4_digitOf t_sizes t_strides x1 z24) fun z42 => (Option.bind (f_X5_branch e_count e_extents v3_5 z42) fun z45 => (some (.inl (z45, (v4_5 + 1)))))))) else (some (.inr v3_5)))))
def f_X5_leafFor (e_count : Int32) (e_tests : Nat → Int32) (e_extents : Nat → Int32) (t_sizes : Nat → Int32) (t_strides : Nat → Int32) (x1 : Int32) : Option (Int32) :=
  (wl (fun q => f_X5_leafFor_s5 e_count e_tests e_extents t_sizes t_strides x1 q.1 q.2) 5000 ((0 : Int32), (0 : Int32)))
set_option maxHeartbeats 4000000 in
set_option maxRecDepth 100000 in
theorem c_X5_leafFor (l : Launch) (D : va_G) (g : Nat → ClassId) (aE aT : Nat → Nat) (e_count : Int32) (e_worst : Int32) (e_expected : Int64) (e_classCount : Int32) (e_tests : Nat → Int32) (e_actions : Nat → Int32) (e_extents : Nat → Int32) (e_depths : Nat → Int32) (e_classes : Nat → Int32) (e_lowest : Nat → Int32) (e_leafClasses : Nat → Int32) (t_conditions : Int32) (t_cases : Int32) (t_rules : Int32) (t_defaultAction : Int32) (t_sizes : Nat → Int32) (t_strides : Nat → Int32) (t_costs : Nat → Int32) (t_weights : Nat → Int32) (t_sets : Nat → Int32) (t_actions : Nat → Int32) (t_rulesWith : Nat → Int32) (x1 : Int32) (r : Int32) (hf : f_X5_leafFor e_count e_tests e_extents t_sizes t_strides x1 = some r) : CR l yX5_leafFor wsX5_leafFor 2 43 D g [.ref (aE 0), .int x1, .ref (aT 0)] (wX5 g aE e_count e_worst e_expected e_classCount e_tests e_actions e_extents e_depths e_classes e_lowest e_leafClasses ++ (wX4 g aT t_conditions t_cases t_rules t_defaultAction t_sizes t_strides t_costs t_weights t_sets t_actions t_rulesWith)) (QRi r) := by
  refine Met.ofW (cc := cX5_leafFor) (maxL := 5) (ret := (some .int)) (by decide) rfl ?_
  intro p e s m args below meth c s₁ B hml hv
  obtain ⟨rfl, hP, hK⟩ := hv
  have hx := B.exec
  have hb := B.bytes
  have hr := B.returns
  have hts := atoms_spec (ws := wsX5_leafFor) B.pre
  have hown : s.vm.findClass RX5 = some m.cls := findClass_of_methodNamed B.named
  have hlocks := B.notSynchronized
  have hh0 := (show ∀ w ∈ wsX50, w ∈ wsX5_leafFor from by decide +kernel)
  have hh1 := hts (.fieldLink RX5 9 "DecisionTableCompiler$Tree" "tests" "[I") (by decide +kernel)
  have hl := lv_entry ([.ref (aE 0), .int x1, .ref (aT 0)]) (n := 5) (Nat.le_of_ble_eq_true rfl)
  rw [lg_entry_eq]
  generalize (lg_sl ([.ref (aE 0), .int x1, .ref (aT 0)]) ++ List.replicate (5 - (lg_sl ([.ref (aE 0), .int x1, .ref (aT 0)])).length) Slot.unset).toArray = ls at hl ⊢
  replace hl : lv_has ls 5 [(0, .ref (aE 0)), (1, .int x1), (2, .ref (aT 0))] := hl
  have h := hf
  unfold f_X5_leafFor at h
  refine lv_iconst (v := 0) hx hb dX5_leafFor_0 (by decide) ?_
  refine lv_istore_n (lv' := [(3, .int (0 : Int32)), (0, .ref (aE 0)), (1, .int x1), (2, .ref (aT 0))]) hx hb dX5_leafFor_1 rfl hl (by decide) rfl (fun ls hl => ?_)
  refine lv_iconst (v := 0) hx hb dX5_leafFor_2 (by decide) ?_
  refine lv_istore (lv' := [(4, .int (0 : Int32)), (3, .int (0 : Int32)), (0, .ref (aE 0)), (1, .int x1), (2, .ref (aT 0))]) hx hb dX5_leafFor_3 hl (by decide) rfl (fun ls hl => ?_)
  have lp5 : ∀ (n : Nat) (v3_5 : Int32) (v4_5 : Int32), wl (fun q => f_X5_leafFor_s5 e_count e_tests e_extents t_sizes t_strides x1 q.1 q.2) n (v3_5, v4_5) = some r → ∀ ls : Array Slot, lv_has ls 5 [(4, .int v4_5), (3, .int v3_5), (0, .ref (aE 0)), (1, .int x1), (2, .ref (aT 0))] → W p l e (headSpec wsX5_leafFor ({ frames := 2, cells := 0, slots := 0, locals := 43 })).room s m ([.ref (aE 0), .int x1, .ref (aT 0)] : List Value).toArray below meth c s.heap [] 0 0 (MQ below (QRi r) ([.ref (aE 0), .int x1, .ref (aT 0)] : List Value).toArray s 0 0 (fun _ => False)) (F0 m 5 ls []) := by
    intro n
    induction n with
    | zero =>
      intro v3_5 v4_5 h
      exact wl_0 h
    | succ n ih1 =>
      intro v3_5 v4_5 h ls hl
      obtain ⟨o1, h, k1⟩ := wl_s h
      replace h : f_X5_leafFor_s5 e_count e_tests e_extents t_sizes t_strides x1 v3_5 v4_5 = some o1 := h
      unfold f_X5_leafFor_s5 at h
      refine lv_iload hx hb dX5_leafFor_5 (lv_at hl 0 rfl) ?_
      refine lv_iconst (v := 4) hx hb dX5_leafFor_7 (by decide) ?_
      refine lv_icmp_ge (tgt := 55) hx hb dX5_leafFor_8 (by decide) (fun c8 => ?_) (fun c8 => ?_)
      · replace h := ite_t c8 h
        refine lv_iload_n hx hb dX5_leafFor_55 rfl (lv_at hl 1 rfl) ?_
        replace h := Option.some.inj h
        subst h
        replace h := wk_r k1
        subst h
        exact W.iret hx hb hr (fun t ht hW => ⟨_, rfl, rfl, ht⟩) (fun q hq => by cases hq) dX5_leafFor_56
      · replace h := ite_f c8 h
        refine lv_aload_n hx hb dX5_leafFor_11 rfl (lv_at hl 2 rfl) ?_
        refine lv_iload_n hx hb dX5_leafFor_12 rfl (lv_at hl 1 rfl) ?_
        obtain ⟨z13, e_13, h⟩ := bd_s h
        refine cr_i (va_runV (As := [.int v3_5]) (rest := []) ⟨hx, hb, hml, hown, hts⟩ (c_X5_hasNode l D g aE e_count e_worst e_expected e_classCount e_tests e_actions e_extents e_depths e_classes e_lowest e_leafClasses v3_5 z13 e_13) (cwV 1 hts gX5_leafFor_X5_hasNode rfl rfl rfl ⟨rfl, pd_X5_hasNode⟩ ⟨Nat.le_of_ble_eq_true rfl, Nat.le_of_ble_eq_true rfl⟩) (pr_v hK (hP.sub (ws' := (wX5 g aE e_count e_worst e_expected e_classCount e_tests e_actions e_extents e_depths e_classes e_lowest e_leafClasses)) [0, 1, 2, 3, 4, 5, 6, 7] rfl) (q0 := 0) (ci := 5) rfl rfl rfl) rfl rfl hl.1 rfl (lv_room (Nat.le_of_ble_eq_true rfl)) dX5_leafFor_13 ⟨Nat.zero_le _, Nat.zero_le _⟩) ?_
        refine lb_eq (tgt := 55) hx hb dX5_leafFor_16 (by decide) (fun c16 => ?_) (fun c16 => ?_)
        · replace h := ite_t c16 h
          refine lv_aload_n hx hb dX5_leafFor_19 rfl (lv_at hl 2 rfl) ?_
          refine va_get (D := D) (ci := 5) (v := .ref (aE 1)) (C := RX5) (T := TX5) (N := 11) hx hb hts hh0 hown hK.1 hP 0 rfl rfl 4 (by decide) hh1 (fun _ h9 => h9) rfl dX5_leafFor_20 ?_
          refine lv_iload_n hx hb dX5_leafFor_23 rfl (lv_at hl 1 rfl) ?_
          have iz24 := rd_in h
          refine va_iald hx hb hK.1 hP 1 0 rfl rfl (rd_in h) dX5_leafFor_24 (lv_topi (fun z24 ez24 => ?_))
          replace h := rd_k h ez24
          refine lv_iconst (v := -1) hx hb dX5_leafFor_25 (by decide) ?_
          refine lv_icmp_ne (tgt := 32) hx hb dX5_leafFor_26 (by decide) (fun c26 => ?_) (fun c26 => ?_)
          · replace h := ite_f c26 h
            refine lv_aload_n hx hb dX5_leafFor_32 rfl (lv_at hl 2 rfl) ?_
            refine lv_iload_n hx hb dX5_leafFor_33 rfl (lv_at hl 1 rfl) ?_
            refine lv_aload_n hx hb dX5_leafFor_34 rfl (lv_at hl 4 rfl) ?_
            refine lv_iload_n hx hb dX5_leafFor_35 rfl (lv_at hl 3 rfl) ?_
            refine lv_aload_n hx hb dX5_leafFor_36 rfl (lv_at hl 2 rfl) ?_
            refine va_get (D := D) (ci := 5) (v := .ref (aE 1)) (C := RX5) (T := TX5) (N := 11) hx hb hts hh0 hown hK.1 hP 0 rfl rfl 4 (by decide) hh1 (fun _ h9 => h9) rfl dX5_leafFor_37 ?_
            refine lv_iload_n hx hb dX5_leafFor_40 rfl (lv_at hl 1 rfl) ?_
            refine va_iald hx hb hK.1 hP 1 0 rfl rfl iz24 dX5_leafFor_41 (lv_topi (fun u41 eu41 => ?_))
            have eu : z24 = u41 := ez24.trans eu41.symm
            subst eu
            obtain ⟨z42, e_42, h⟩ := bd_s h
            refine cr_i (va_runV (As := [.int x1, .int z24]) (rest := [.int v3_5, .ref (aE 0)]) ⟨hx, hb, hml, hown, hts⟩ (c_X4_digitOf l D g aT t_conditions t_cases t_rules t_defaultAction t_sizes t_strides t_costs t_weights t_sets t_actions t_rulesWith x1 z24 z42 e_42) (cwV 2 hts gX5_leafFor_X4_digitOf rfl rfl rfl ⟨rfl, pd_X4_digitOf⟩ ⟨Nat.le_of_ble_eq_true rfl, Nat.le_of_ble_eq_true rfl⟩) (pr_v hK (hP.sub (ws' := (wX4 g aT t_conditions t_cases t_rules t_defaultAction t_sizes t_strides t_costs t_weights t_sets t_actions t_rulesWith)) [8, 9, 10, 11, 12, 13, 14, 15] rfl) (q0 := 0) (ci := 4) rfl rfl rfl) rfl rfl hl.1 rfl (lv_room (Nat.le_of_ble_eq_true rfl)) dX5_leafFor_42 ⟨Nat.zero_le _, Nat.zero_le _⟩) ?_
            obtain ⟨z45, e_45, h⟩ := bd_s h
            refine cr_i (va_runV (As := [.int v3_5, .int z42]) (rest := []) ⟨hx, hb, hml, hown, hts⟩ (c_X5_branch l D g aE e_count e_worst e_expected e_classCount e_tests e_actions e_extents e_depths e_classes e_lowest e_leafClasses v3_5 z42 z45 e_45) (cwV 2 hts gX5_leafFor_X5_branch rfl rfl rfl ⟨rfl, pd_X5_branch⟩ ⟨Nat.le_of_ble_eq_true rfl, Nat.le_of_ble_eq_true rfl⟩) (pr_v hK (hP.sub (ws' := (wX5 g aE e_count e_worst e_expected e_classCount e_tests e_actions e_extents e_depths e_classes e_lowest e_leafClasses)) [0, 1, 2, 3, 4, 5, 6, 7] rfl) (q0 := 0) (ci := 5) rfl rfl rfl) rfl rfl hl.1 rfl (lv_room (Nat.le_of_ble_eq_true rfl)) dX5_leafFor_45 ⟨Nat.zero_le _, Nat.zero_le _⟩) ?_
            refine lv_istore_n (lv' := [(3, .int z45), (4, .int v4_5), (0, .ref (aE 0)), (1, .int x1), (2, .ref (aT 0))]) hx hb dX5_leafFor_48 rfl hl (by decide) rfl (fun ls hl => ?_)
            refine lv_iinc (v := (v4_5 + 1)) (lv' := [(4, .int (v4_5 + 1)), (3, .int z45), (0, .ref (aE 0)), (1, .int x1), (2, .ref (aT 0))]) hx hb dX5_leafFor_49 hl (k := 1) rfl rfl (by decide) rfl (fun ls hl => ?_)
            refine lv_goto (tgt := 5) hx hb dX5_leafFor_52 (by decide) ?_
            replace h := Option.some.inj h
            subst h
            exact ih1 z45 (v4_5 + 1) (wk_l k1) ls (lv_sub hl [0, 1, 2, 3, 4] rfl)
          · replace h := ite_t c26 h
            refine lv_goto (tgt := 55) hx hb dX5_leafFor_29 (by decide) ?_
            refine lv_iload_n hx hb dX5_leafFor_55 rfl (lv_at hl 1 rfl) ?_
            replace h := Option.some.inj h
            subst h
            replace h := wk_r k1
            subst h
            exact W.iret hx hb hr (fun t ht hW => ⟨_, rfl, rfl, ht⟩) (fun q hq => by cases hq) dX5_leafFor_56
        · replace h := ite_f c16 h
          refine lv_iload_n hx hb dX5_leafFor_55 rfl (lv_at hl 1 rfl) ?_
          replace h := Option.some.inj h
          subst h
          replace h := wk_r k1
          subst h
          exact W.iret hx hb hr (fun t ht hW => ⟨_, rfl, rfl, ht⟩) (fun q hq => by cases hq) dX5_leafFor_56
  exact lp5 5000 (0 : Int32) (0 : Int32) h ls (lv_sub hl [0, 1, 2, 3, 4] rfl)
