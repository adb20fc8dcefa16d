theorem pd_X0_add : yX0_add.cls ≠ "java/lang/invoke/MethodHandle" ∧ yX0_add.cls ≠ "java/lang/invoke/VarHandle" ∧ (parseMethodDescriptor yX0_add.desc).map (fun d => d.parameters.length) = some 2 := by decide +kernel
def f_X0_add_s2 (x1 : Int32) (x2 : Int32) (v3_2 : Int32) (i_length_2 : Int32) (i_bytes_2 : Nat → Int32) : Option ((Int32 × Int32 × (Nat → Int32)) ⊕ (Int32 × (Nat → Int32))) :=
  (if x2 ≤ v3_2 then (some (.inr (i_length_2, i_bytes_2))) else (if (40 : Int32) ≤ i_length_2 then (some (.inr (i_length_2, i_bytes_2))) else (ix 40 i_length_2 (some (.inl ((v3_2 + 1), (i_length_2 + (1 : Int32)), (upd i_bytes_2 i_length_2.toNatClampNeg (vp_nar .byte (x1.toInt8.toInt32)))))))))
def f_X0_add (i_length : Int32) (i_bytes : Nat → Int32) (x1 : Int32) (x2 : Int32) : Option (Int32 × (Nat → Int32)) :=
  (wl (fun q => f_X0_add_s2 x1 x2 q.1 q.2.1 q.2.2) 5000 ((0 : Int32), i_length, i_bytes))
set_option maxHeartbeats 4000000 in
set_option maxRecDepth 100000 in
theorem c_X0_add (l : Launch) (sz : Nat) (D : va_G) (g : Nat → ClassId) (aI : Nat → Nat) (i_length : Int32) (i_bytes : Nat → Int32) (x1 : Int32) (x2 : Int32) (i_length_n : Int32) (i_bytes_n : Nat → Int32) (hf : f_X0_add i_length i_bytes x1 x2 = some (i_length_n, i_bytes_n)) : CM l yX0_add wsX0_add 0 0 sz D g [.ref (aI 0), .int x1, .int x2] (wX0 g aI i_length i_bytes) (QMv D (wX0 g aI i_length i_bytes) sz (wX0 g aI i_length_n i_bytes_n)) := by
  refine Met.ofW (cc := cX0_add) (maxL := 4) (ret := none) (by decide) rfl ?_
  intro p e s m args below meth c s₁ B hml hv
  obtain ⟨rfl, hsz, hP, hK, hD0⟩ := hv
  have hx := B.exec
  have hb := B.bytes
  have hr := B.returns
  have hts := atoms_spec (ws := wsX0_add) B.pre
  have hown : s.vm.findClass RX0 = some m.cls := findClass_of_methodNamed B.named
  have hlocks := B.notSynchronized
  have hh0 := (show ∀ w ∈ wsX00, w ∈ wsX0_add from by decide +kernel)
  have hh1 := hts (.fieldLink RX0 15 "DecisionTableCompiler$InputBuffer" "length" "I") (by decide +kernel)
  have hh2 := hts (.fieldLink RX0 9 "DecisionTableCompiler$InputBuffer" "bytes" "[B") (by decide +kernel)
  subst hsz
  have hD := hD0.self (sz := s.heap.size)
  have hA : ∀ q : Nat, s.heap.size ≤ q → va_A (wX0 g aI i_length i_bytes) s.heap.size q := fun q h => Or.inr h
  have hS : va_S (va_A (wX0 g aI i_length i_bytes) s.heap.size) s.heap s.heap [] := va_S.rf
  have hl := lv_entry ([.ref (aI 0), .int x1, .int x2]) (n := 4) (Nat.le_of_ble_eq_true rfl)
  rw [lg_entry_eq]
  generalize (lg_sl ([.ref (aI 0), .int x1, .int x2]) ++ List.replicate (4 - (lg_sl ([.ref (aI 0), .int x1, .int x2])).length) Slot.unset).toArray = ls at hl ⊢
  replace hl : lv_has ls 4 [(0, .ref (aI 0)), (1, .int x1), (2, .int x2)] := hl
  have h := hf
  unfold f_X0_add at h
  obtain ⟨H, hH⟩ : ∃ H, H = s.heap := ⟨_, rfl⟩
  obtain ⟨locs, hlc⟩ : ∃ q : List Loc, q = [] := ⟨_, rfl⟩
  have hS : va_S (va_A (wX0 g aI i_length i_bytes) s.heap.size) s.heap H locs := by rw [hH, hlc]; exact hS
  replace hP : va_P D vwCl (wX0 g aI i_length i_bytes) H := by rw [hH]; exact hP
  suffices hW : W p l e (headSpec wsX0_add ({ frames := 0, cells := 0, slots := 0, locals := 0 })).room s m ([.ref (aI 0), .int x1, .int x2] : List Value).toArray below meth c H locs 0 0 (MQ below (QMv D (wX0 g aI i_length i_bytes) s.heap.size (wX0 g aI i_length_n i_bytes_n)) ([.ref (aI 0), .int x1, .int x2] : List Value).toArray s 0 0 (va_A (wX0 g aI i_length i_bytes) s.heap.size)) (F0 m 0 ls []) by rw [hH, hlc] at hW; exact hW
  clear hH hlc
  refine lv_iconst (v := 0) hx hb dX0_add_0 (by decide) ?_
  refine lv_istore_n (lv' := [(3, .int (0 : Int32)), (0, .ref (aI 0)), (1, .int x1), (2, .int x2)]) hx hb dX0_add_1 rfl hl (by decide) rfl (fun ls hl => ?_)
  have lp2 : ∀ (n : Nat) (v3_2 : Int32) (i_length_2 : Int32) (i_bytes_2 : Nat → Int32) (H : Heap) (locs : List Loc), va_P D vwCl (wX0 g aI i_length_2 i_bytes_2) H → va_D (va_A (wX0 g aI i_length i_bytes) s.heap.size) (wX0 g aI i_length_2 i_bytes_2) → va_S (va_A (wX0 g aI i_length i_bytes) s.heap.size) s.heap H locs → wl (fun q => f_X0_add_s2 x1 x2 q.1 q.2.1 q.2.2) n (v3_2, i_length_2, i_bytes_2) = some (i_length_n, i_bytes_n) → ∀ ls : Array Slot, lv_has ls 4 [(3, .int v3_2), (0, .ref (aI 0)), (1, .int x1), (2, .int x2)] → W p l e (headSpec wsX0_add ({ frames := 0, cells := 0, slots := 0, locals := 0 })).room s m ([.ref (aI 0), .int x1, .int x2] : List Value).toArray below meth c H locs 0 0 (MQ below (QMv D (wX0 g aI i_length i_bytes) s.heap.size (wX0 g aI i_length_n i_bytes_n)) ([.ref (aI 0), .int x1, .int x2] : List Value).toArray s 0 0 (va_A (wX0 g aI i_length i_bytes) s.heap.size)) (F0 m 2 ls []) := by
    intro n
    induction n with
    | zero =>
      intro v3_2 i_length_2 i_bytes_2 H locs hP hD hS h
      exact wl_0 h
    | succ n ih1 =>
      intro v3_2 i_length_2 i_bytes_2 H locs hP hD hS h ls hl
      obtain ⟨o1, h, k1⟩ := wl_s h
      replace h : f_X0_add_s2 x1 x2 v3_2 i_length_2 i_bytes_2 = some o1 := h
      unfold f_X0_add_s2 at h
      refine lv_iload_n hx hb dX0_add_2 rfl (lv_at hl 0 rfl) ?_
      refine lv_iload_n hx hb dX0_add_3 rfl (lv_at hl 3 rfl) ?_
      refine lv_icmp_ge (tgt := 43) hx hb dX0_add_4 (by decide) (fun c4 => ?_) (fun c4 => ?_)
      · replace h := ite_t c4 h
        replace h := Option.some.inj h
        subst h
        replace h := wk_r k1
        have hj0 := (Prod.mk.inj h).1
        have hg0 := (Prod.mk.inj h).2
        subst hj0
        subst hg0
        exact W.vret hx hb hr (fun t ht hW => ⟨⟨(), rfl, trivial, by rw [ht]; exact hP, hD⟩, hS.F ht⟩) hS.2.2 dX0_add_43
      · replace h := ite_f c4 h
        refine lv_aload_n hx hb dX0_add_7 rfl (lv_at hl 1 rfl) ?_
        refine va_get (D := D) (ci := 0) (v := .int i_length_2) (C := RX0) (T := TX0) (N := 2) hx hb hts hh0 hown hK.1 hP 0 rfl rfl 0 (by decide) hh1 (fun _ h9 => h9) rfl dX0_add_8 ?_
        refine lv_bipush (v := 40) hx hb dX0_add_11 (by decide) ?_
        refine lv_icmp_ge (tgt := 43) hx hb dX0_add_13 (by decide) (fun c13 => ?_) (fun c13 => ?_)
        · replace h := ite_t c13 h
          replace h := Option.some.inj h
          subst h
          replace h := wk_r k1
          have hj0 := (Prod.mk.inj h).1
          have hg0 := (Prod.mk.inj h).2
          subst hj0
          subst hg0
          exact W.vret hx hb hr (fun t ht hW => ⟨⟨(), rfl, trivial, by rw [ht]; exact hP, hD⟩, hS.F ht⟩) hS.2.2 dX0_add_43
        · replace h := ite_f c13 h
          refine lv_aload_n hx hb dX0_add_16 rfl (lv_at hl 1 rfl) ?_
          refine va_get (D := D) (ci := 0) (v := .ref (aI 1)) (C := RX0) (T := TX0) (N := 2) hx hb hts hh0 hown hK.1 hP 0 rfl rfl 1 (by decide) hh2 (fun _ h9 => h9) rfl dX0_add_17 ?_
          refine lv_aload_n hx hb dX0_add_20 rfl (lv_at hl 1 rfl) ?_
          refine va_get (D := D) (ci := 0) (v := .int i_length_2) (C := RX0) (T := TX0) (N := 2) hx hb hts hh0 hown hK.1 hP 0 rfl rfl 0 (by decide) hh1 (fun _ h9 => h9) rfl dX0_add_21 ?_
          refine lv_iload_n hx hb dX0_add_24 rfl (lv_at hl 2 rfl) ?_
          refine lv_i2b (v := x1.toInt8.toInt32) hx hb dX0_add_25 rfl ?_
          have ib26 := ix_in h
          replace h := ix_k h
          refine va_bast hx hb hK.1 hP hD hS 1 2 rfl rfl ib26 dX0_add_26 (fun H locs hP hD hS => ?_)
          replace hP : va_P D vwCl (wX0 g aI i_length_2 (upd i_bytes_2 i_length_2.toNatClampNeg (vp_nar .byte (x1.toInt8.toInt32)))) H := hP
          replace hD : va_D (va_A (wX0 g aI i_length i_bytes) s.heap.size) (wX0 g aI i_length_2 (upd i_bytes_2 i_length_2.toNatClampNeg (vp_nar .byte (x1.toInt8.toInt32)))) := hD
          refine lv_aload_n hx hb dX0_add_27 rfl (lv_at hl 1 rfl) ?_
          refine lv_dup hx hb dX0_add_28 rfl ?_
          refine va_get (D := D) (ci := 0) (v := .int i_length_2) (C := RX0) (T := TX0) (N := 2) hx hb hts hh0 hown hK.1 hP 0 rfl rfl 0 (by decide) hh1 (fun _ h9 => h9) rfl dX0_add_29 ?_
          refine lv_iconst (v := 1) hx hb dX0_add_32 (by decide) ?_
          refine lv_iadd hx hb dX0_add_33 ?_
          refine va_put (D := D) (ci := 0) (v := .int (i_length_2 + (1 : Int32))) (ty := .int) (C := RX0) (T := TX0) (N := 2) hx hb hts hh0 tyX0 tyX0_ok nmX0 hown hK.1 hP hD hS 0 rfl rfl 0 (by decide) hh1 (fun _ h9 => h9) rfl (by decide +kernel) rfl rfl (Nat.le_of_ble_eq_true rfl) dX0_add_34 (fun H locs hP hD hS => ?_)
          replace hP : va_P D vwCl (wX0 g aI (i_length_2 + (1 : Int32)) (upd i_bytes_2 i_length_2.toNatClampNeg (vp_nar .byte (x1.toInt8.toInt32)))) H := hP
          replace hD : va_D (va_A (wX0 g aI i_length i_bytes) s.heap.size) (wX0 g aI (i_length_2 + (1 : Int32)) (upd i_bytes_2 i_length_2.toNatClampNeg (vp_nar .byte (x1.toInt8.toInt32)))) := hD
          refine lv_iinc (v := (v3_2 + 1)) (lv' := [(3, .int (v3_2 + 1)), (0, .ref (aI 0)), (1, .int x1), (2, .int x2)]) hx hb dX0_add_37 hl (k := 0) rfl rfl (by decide) rfl (fun ls hl => ?_)
          refine lv_goto (tgt := 2) hx hb dX0_add_40 (by decide) ?_
          replace h := Option.some.inj h
          subst h
          exact ih1 (v3_2 + 1) (i_length_2 + (1 : Int32)) (upd i_bytes_2 i_length_2.toNatClampNeg (vp_nar .byte (x1.toInt8.toInt32))) H locs hP hD hS (wk_l k1) ls (lv_sub hl [0, 1, 2, 3] rfl)
  exact lp2 5000 (0 : Int32) i_length i_bytes H locs hP hD hS h ls (lv_sub hl [0, 1, 2, 3] rfl)
theorem pd_X2_acceptStar : yX2_acceptStar.cls ≠ "java/lang/invoke/MethodHandle" ∧ yX2_acceptStar.cls ≠ "java/lang/invoke/VarHandle" ∧ (parseMethodDescriptor yX2_acceptStar.desc).map (fun d => d.parameters.length) = some 2 := by decide +kernel
def f_X2_acceptStar (r_sets : Nat → Int32) (r_state : Int32) (r_condition : Int32) (t_sizes : Nat → Int32) (x1 : Int32) : Option (Bool × (Nat → Int32) × Int32) :=
  (if x1 = (42 : Int32) then (rd 4 t_sizes r_condition fun z25 => (some (true, (upd r_sets r_condition.toNatClampNeg (((1 : Int32) <<< (z25 &&& 31)) - (1 : Int32))), (2 : Int32)))) else (some (false, r_sets, r_state)))
set_option maxHeartbeats 4000000 in
set_option maxRecDepth 100000 in
theorem c_X2_acceptStar (l : Launch) (sz : Nat) (D : va_G) (g : Nat → ClassId) (aR aT : Nat → Nat) (r_action : Int32) (r_sets : Nat → Int32) (r_state : Int32) (r_condition : Int32) (t_conditions : Int32) (t_cases : Int32) (t_rules : Int32) (t_defaultAction : Int32) (t_sizes : Nat → Int32) (t_strides : Nat → Int32) (t_costs : Nat → Int32) (t_weights : Nat → Int32) (t_sets : Nat → Int32) (t_actions : Nat → Int32) (t_rulesWith : Nat → Int32) (x1 : Int32) (r : Bool) (r_sets_n : Nat → Int32) (r_state_n : Int32) (hf : f_X2_acceptStar r_sets r_state r_condition t_sizes x1 = some (r, r_sets_n, r_state_n)) : CM l yX2_acceptStar wsX2_acceptStar 0 0 sz D g [.ref (aR 0), .int x1, .ref (aT 0)] (wX2 g aR r_action r_sets r_state r_condition ++ (wX4 g aT t_conditions t_cases t_rules t_defaultAction t_sizes t_strides t_costs t_weights t_sets t_actions t_rulesWith)) (QMi D (wX2 g aR r_action r_sets r_state r_condition ++ (wX4 g aT t_conditions t_cases t_rules t_defaultAction t_sizes t_strides t_costs t_weights t_sets t_actions t_rulesWith)) sz (wX2 g aR r_action r_sets_n r_state_n r_condition ++ (wX4 g aT t_conditions t_cases t_rules t_defaultAction t_sizes t_strides t_costs t_weights t_sets t_actions t_rulesWith)) (bI r)) := by
  refine Met.ofW (cc := cX2_acceptStar) (maxL := 3) (ret := (some .boolean)) (by decide) rfl ?_
  intro p e s m args below meth c s₁ B hml hv
  obtain ⟨rfl, hsz, hP, hK, hD0⟩ := hv
  have hx := B.exec
  have hb := B.bytes
  have hr := B.returns
  have hts := atoms_spec (ws := wsX2_acceptStar) B.pre
  have hown : s.vm.findClass RX2 = some m.cls := findClass_of_methodNamed B.named
  have hlocks := B.notSynchronized
  have hh0 := (show ∀ w ∈ wsX20, w ∈ wsX2_acceptStar from by decide +kernel)
  have hh1 := hts (.fieldLink RX2 9 "DecisionTableCompiler$RuleText" "sets" "[I") (by decide +kernel)
  have hh2 := hts (.fieldLink RX2 25 "DecisionTableCompiler$RuleText" "condition" "I") (by decide +kernel)
  have hh3 := (show ∀ w ∈ wsX40, w ∈ wsX2_acceptStar from by decide +kernel)
  have hh4 := hts (.fieldLink RX2 57 "DecisionTableCompiler$Table" "sizes" "[I") (by decide +kernel)
  have hh5 := hts (.fieldLink RX2 28 "DecisionTableCompiler$RuleText" "state" "I") (by decide +kernel)
  subst hsz
  have hD := hD0.self (sz := s.heap.size)
  have hA : ∀ q : Nat, s.heap.size ≤ q → va_A (wX2 g aR r_action r_sets r_state r_condition ++ (wX4 g aT t_conditions t_cases t_rules t_defaultAction t_sizes t_strides t_costs t_weights t_sets t_actions t_rulesWith)) s.heap.size q := fun q h => Or.inr h
  have hS : va_S (va_A (wX2 g aR r_action r_sets r_state r_condition ++ (wX4 g aT t_conditions t_cases t_rules t_defaultAction t_sizes t_strides t_costs t_weights t_sets t_actions t_rulesWith)) s.heap.size) s.heap s.heap [] := va_S.rf
  have hl := lv_entry ([.ref (aR 0), .int x1, .ref (aT 0)]) (n := 3) (Nat.le_of_ble_eq_true rfl)
  rw [lg_entry_eq]
  generalize (lg_sl ([.ref (aR 0), .int x1, .ref (aT 0)]) ++ List.replicate (3 - (lg_sl ([.ref (aR 0), .int x1, .ref (aT 0)])).length) Slot.unset).toArray = ls at hl ⊢
  replace hl : lv_has ls 3 [(0, .ref (aR 0)), (1, .int x1), (2, .ref (aT 0))] := hl
  have h := hf
  unfold f_X2_acceptStar at h
  obtain ⟨H, hH⟩ : ∃ H, H = s.heap := ⟨_, rfl⟩
  obtain ⟨locs, hlc⟩ : ∃ q : List Loc, q = [] := ⟨_, rfl⟩
  have hS : va_S (va_A (wX2 g aR r_action r_sets r_state r_condition ++ (wX4 g aT t_conditions t_cases t_rules t_defaultAction t_sizes t_strides t_costs t_weights t_sets t_actions t_rulesWith)) s.heap.size) s.heap H locs := by rw [hH, hlc]; exact hS
  replace hP : va_P D vwCl (wX2 g aR r_action r_sets r_state r_condition ++ (wX4 g aT t_conditions t_cases t_rules t_defaultAction t_sizes t_strides t_costs t_weights t_sets t_actions t_rulesWith)) H := by rw [hH]; exact hP
  suffices hW : W p l e (headSpec wsX2_acceptStar ({ frames := 0, cells := 0, slots := 0, locals := 0 })).room s m ([.ref (aR 0), .int x1, .ref (aT 0)] : List Value).toArray below meth c H locs 0 0 (MQ below (QMi D (wX2 g aR r_action r_sets r_state r_condition ++ (wX4 g aT t_conditions t_cases t_rules t_defaultAction t_sizes t_strides t_costs t_weights t_sets t_actions t_rulesWith)) s.heap.size (wX2 g aR r_action r_sets_n r_state_n r_condition ++ (wX4 g aT t_conditions t_cases t_rules t_defaultAction t_sizes t_strides t_costs t_weights t_sets t_actions t_rulesWith)) (bI r)) ([.ref (aR 0), .int x1, .ref (aT 0)] : List Value).toArray s 0 0 (va_A (wX2 g aR r_action r_sets r_state r_condition ++ (wX4 g aT t_conditions t_cases t_rules t_defaultAction t_sizes t_strides t_costs t_weights t_sets t_actions t_rulesWith)) s.heap.size)) (F0 m 0 ls []) by rw [hH, hlc] at hW; exact hW
  clear hH hlc
  refine lv_iload_n hx hb dX2_acceptStar_0 rfl (lv_at hl 1 rfl) ?_
  refine lv_bipush (v := 42) hx hb dX2_acceptStar_1 (by decide) ?_
  refine lv_icmp_eq (tgt := 8) hx hb dX2_acceptStar_3 (by decide) (fun c3 => ?_) (fun c3 => ?_)
  · replace h := ite_t c3 h
    refine lv_aload_n hx hb dX2_acceptStar_8 rfl (lv_at hl 0 rfl) ?_
    refine va_get (D := D) (ci := 2) (v := .ref (aR 1)) (C := RX2) (T := TX2) (N := 4) hx hb hts hh0 hown hK.1 hP 0 rfl rfl 1 (by decide) hh1 (fun _ h9 => h9) rfl dX2_acceptStar_9 ?_
    refine lv_aload_n hx hb dX2_acceptStar_12 rfl (lv_at hl 0 rfl) ?_
    refine va_get (D := D) (ci := 2) (v := .int r_condition) (C := RX2) (T := TX2) (N := 4) hx hb hts hh0 hown hK.1 hP 0 rfl rfl 3 (by decide) hh2 (fun _ h9 => h9) rfl dX2_acceptStar_13 ?_
    refine lv_iconst (v := 1) hx hb dX2_acceptStar_16 (by decide) ?_
    refine lv_aload_n hx hb dX2_acceptStar_17 rfl (lv_at hl 2 rfl) ?_
    refine va_get (D := D) (ci := 4) (v := .ref (aT 1)) (C := RX4) (T := TX4) (N := 11) hx hb hts hh3 hown hK.1 hP 2 rfl rfl 4 (by decide) hh4 (fun _ h9 => h9) rfl dX2_acceptStar_18 ?_
    refine lv_aload_n hx hb dX2_acceptStar_21 rfl (lv_at hl 0 rfl) ?_
    refine va_get (D := D) (ci := 2) (v := .int r_condition) (C := RX2) (T := TX2) (N := 4) hx hb hts hh0 hown hK.1 hP 0 rfl rfl 3 (by decide) hh2 (fun _ h9 => h9) rfl dX2_acceptStar_22 ?_
    have iz25 := rd_in h
    refine va_iald hx hb hK.1 hP 3 0 rfl rfl (rd_in h) dX2_acceptStar_25 (lv_topi (fun z25 ez25 => ?_))
    replace h := rd_k h ez25
    refine lv_ishl hx hb dX2_acceptStar_26 ?_
    refine lv_iconst (v := 1) hx hb dX2_acceptStar_27 (by decide) ?_
    refine lv_isub hx hb dX2_acceptStar_28 ?_
    refine va_iast hx hb hK.1 hP hD hS 1 0 rfl rfl iz25 dX2_acceptStar_29 (fun H locs hP hD hS => ?_)
    replace hP : va_P D vwCl (wX2 g aR r_action (upd r_sets r_condition.toNatClampNeg (((1 : Int32) <<< (z25 &&& 31)) - (1 : Int32))) r_state r_condition ++ (wX4 g aT t_conditions t_cases t_rules t_defaultAction t_sizes t_strides t_costs t_weights t_sets t_actions t_rulesWith)) H := hP
    replace hD : va_D (va_A (wX2 g aR r_action r_sets r_state r_condition ++ (wX4 g aT t_conditions t_cases t_rules t_defaultAction t_sizes t_strides t_costs t_weights t_sets t_actions t_rulesWith)) s.heap.size) (wX2 g aR r_action (upd r_sets r_condition.toNatClampNeg (((1 : Int32) <<< (z25 &&& 31)) - (1 : Int32))) r_state r_condition ++ (wX4 g aT t_conditions t_cases t_rules t_defaultAction t_sizes t_strides t_costs t_weights t_sets t_actions t_rulesWith)) := hD
    refine lv_aload_n hx hb dX2_acceptStar_30 rfl (lv_at hl 0 rfl) ?_
    refine lv_iconst (v := 2) hx hb dX2_acceptStar_31 (by decide) ?_
    refine va_put (D := D) (ci := 2) (v := .int (2 : Int32)) (ty := .int) (C := RX2) (T := TX2) (N := 4) hx hb hts hh0 tyX2 tyX2_ok nmX2 hown hK.1 hP hD hS 0 rfl rfl 2 (by decide) hh5 (fun _ h9 => h9) rfl (by decide +kernel) rfl rfl (Nat.le_of_ble_eq_true rfl) dX2_acceptStar_32 (fun H locs hP hD hS => ?_)
    replace hP : va_P D vwCl (wX2 g aR r_action (upd r_sets r_condition.toNatClampNeg (((1 : Int32) <<< (z25 &&& 31)) - (1 : Int32))) (2 : Int32) r_condition ++ (wX4 g aT t_conditions t_cases t_rules t_defaultAction t_sizes t_strides t_costs t_weights t_sets t_actions t_rulesWith)) H := hP
    replace hD : va_D (va_A (wX2 g aR r_action r_sets r_state r_condition ++ (wX4 g aT t_conditions t_cases t_rules t_defaultAction t_sizes t_strides t_costs t_weights t_sets t_actions t_rulesWith)) s.heap.size) (wX2 g aR r_action (upd r_sets r_condition.toNatClampNeg (((1 : Int32) <<< (z25 &&& 31)) - (1 : Int32))) (2 : Int32) r_condition ++ (wX4 g aT t_conditions t_cases t_rules t_defaultAction t_sizes t_strides t_costs t_weights t_sets t_actions t_rulesWith)) := hD
    refine lv_iconst (v := 1) hx hb dX2_acceptStar_35 (by decide) ?_
    replace h := Option.some.inj h
    have hj0 := (Prod.mk.inj h).1
    have hg0 := (Prod.mk.inj h).2
    have hj1 := (Prod.mk.inj hg0).1
    have hg1 := (Prod.mk.inj hg0).2
    clear hg0
    subst hj0
    subst hj1
    subst hg1
    exact W.zret hx hb hr rfl (fun t ht hW => ⟨⟨_, (), rfl, rfl, by rw [ht]; exact hP, hD⟩, hS.F ht⟩) hS.2.2 dX2_acceptStar_36
  · replace h := ite_f c3 h
    refine lv_iconst (v := 0) hx hb dX2_acceptStar_6 (by decide) ?_
    replace h := Option.some.inj h
    have hj0 := (Prod.mk.inj h).1
    have hg0 := (Prod.mk.inj h).2
    have hj1 := (Prod.mk.inj hg0).1
    have hg1 := (Prod.mk.inj hg0).2
    clear hg0
    subst hj0
    subst hj1
    subst hg1
    exact W.zret hx hb hr rfl (fun t ht hW => ⟨⟨_, (), rfl, rfl, by rw [ht]; exact hP, hD⟩, hS.F ht⟩) hS.2.2 dX2_acceptStar_7
theorem pd_X2_acceptValue : yX2_acceptValue.cls ≠ "java/lang/invoke/MethodHandle" ∧ yX2_acceptValue.cls ≠ "java/lang/invoke/VarHandle" ∧ (parseMethodDescriptor yX2_acceptValue.desc).map (fun d => d.parameters.length) = some 2 := by decide +kernel
def f_X2_acceptValue (r_sets : Nat → Int32) (r_state : Int32) (r_condition : Int32) (t_conditions : Int32) (t_sizes : Nat → Int32) (x1 : Int32) : Option (Bool × (Nat → Int32) × Int32) :=
  (Option.bind (f_X4_hasValue t_conditions t_sizes r_condition (x1 - (48 : Int32))) fun z11 => (if z11 = true then (rd 4 r_sets r_condition fun z28 => (some (true, (upd r_sets r_condition.toNatClampNeg (z28 ||| ((1 : Int32) <<< ((x1 - (48 : Int32)) &&& 31)))), (1 : Int32)))) else (some (false, r_sets, r_state))))
set_option maxHeartbeats 4000000 in
set_option maxRecDepth 100000 in
theorem c_X2_acceptValue (l : Launch) (sz : Nat) (D : va_G) (g : Nat → ClassId) (aR aT : Nat → Nat) (r_action : Int32) (r_sets : Nat → Int32) (r_state : Int32) (r_condition : Int32) (t_conditions : Int32) (t_cases : Int32) (t_rules : Int32) (t_defaultAction : Int32) (t_sizes : Nat → Int32) (t_strides : Nat → Int32) (t_costs : Nat → Int32) (t_weights : Nat → Int32) (t_sets : Nat → Int32) (t_actions : Nat → Int32) (t_rulesWith : Nat → Int32) (x1 : Int32) (r : Bool) (r_sets_n : Nat → Int32) (r_state_n : Int32) (hf : f_X2_acceptValue r_sets r_state r_condition t_conditions t_sizes x1 = some (r, r_sets_n, r_state_n)) : CM l yX2_acceptValue wsX2_acceptValue 2 43 sz D g [.ref (aR 0), .int x1, .ref (aT 0)] (wX2 g aR r_action r_sets r_state r_condition ++ (wX4 g aT t_conditions t_cases t_rules t_defaultAction t_sizes t_strides t_costs t_weights t_sets t_actions t_rulesWith)) (QMi D (wX2 g aR r_action r_sets r_state r_condition ++ (wX4 g aT t_conditions t_cases t_rules t_defaultAction t_sizes t_strides t_costs t_weights t_sets t_actions t_rulesWith)) sz (wX2 g aR r_action r_sets_n r_state_n r_condition ++ (wX4 g aT t_conditions t_cases t_rules t_defaultAction t_sizes t_strides t_costs t_weights t_sets t_actions t_rulesWith)) (bI r)) := by
  refine Met.ofW (cc := cX2_acceptValue) (maxL := 4) (ret := (some .boolean)) (by decide) rfl ?_
  intro p e s m args below meth c s₁ B hml hv
  obtain ⟨rfl, hsz, hP, hK, hD0⟩ := hv
  have hx := B.exec
  have hb := B.bytes
  have hr := B.returns
  have hts := atoms_spec (ws := wsX2_acceptValue) B.pre
  have hown : s.vm.findClass RX2 = some m.cls := findClass_of_methodNamed B.named
  have hlocks := B.notSynchronized
  have hh0 := (show ∀ w ∈ wsX20, w ∈ wsX2_acceptValue from by decide +kernel)
  have hh1 := hts (.fieldLink RX2 25 "DecisionTableCompiler$RuleText" "condition" "I") (by decide +kernel)
  have hh2 := hts (.fieldLink RX2 9 "DecisionTableCompiler$RuleText" "sets" "[I") (by decide +kernel)
  have hh3 := hts (.fieldLink RX2 28 "DecisionTableCompiler$RuleText" "state" "I") (by decide +kernel)
  subst hsz
  have hD := hD0.self (sz := s.heap.size)
  have hA : ∀ q : Nat, s.heap.size ≤ q → va_A (wX2 g aR r_action r_sets r_state r_condition ++ (wX4 g aT t_conditions t_cases t_rules t_defaultAction t_sizes t_strides t_costs t_weights t_sets t_actions t_rulesWith)) s.heap.size q := fun q h => Or.inr h
  have hS : va_S (va_A (wX2 g aR r_action r_sets r_state r_condition ++ (wX4 g aT t_conditions t_cases t_rules t_defaultAction t_sizes t_strides t_costs t_weights t_sets t_actions t_rulesWith)) s.heap.size) s.heap s.heap [] := va_S.rf
  have hl := lv_entry ([.ref (aR 0), .int x1, .ref (aT 0)]) (n := 4) (Nat.le_of_ble_eq_true rfl)
  rw [lg_entry_eq]
  generalize (lg_sl ([.ref (aR 0), .int x1, .ref (aT 0)]) ++ List.replicate (4 - (lg_sl ([.ref (aR 0), .int x1, .ref (aT 0)])).length) Slot.unset).toArray = ls at hl ⊢
  replace hl : lv_has ls 4 [(0, .ref (aR 0)), (1, .int x1), (2, .ref (aT 0))] := hl
  have h := hf
  unfold f_X2_acceptValue at h
  obtain ⟨H, hH⟩ : ∃ H, H = s.heap := ⟨_, rfl⟩
  obtain ⟨locs, hlc⟩ : ∃ q : List Loc, q = [] := ⟨_, rfl⟩
  have hS : va_S (va_A (wX2 g aR r_action r_sets r_state r_condition ++ (wX4 g aT t_conditions t_cases t_rules t_defaultAction t_sizes t_strides t_costs t_weights t_sets t_actions t_rulesWith)) s.heap.size) s.heap H locs := by rw [hH, hlc]; exact hS
  replace hP : va_P D vwCl (wX2 g aR r_action r_sets r_state r_condition ++ (wX4 g aT t_conditions t_cases t_rules t_defaultAction t_sizes t_strides t_costs t_weights t_sets t_actions t_rulesWith)) H := by rw [hH]; exact hP
  suffices hW : W p l e (headSpec wsX2_acceptValue ({ frames := 2, cells := 0, slots := 0, locals := 43 })).room s m ([.ref (aR 0), .int x1, .ref (aT 0)] : List Value).toArray below meth c H locs 0 0 (MQ below (QMi D (wX2 g aR r_action r_sets r_state r_condition ++ (wX4 g aT t_conditions t_cases t_rules t_defaultAction t_sizes t_strides t_costs t_weights t_sets t_actions t_rulesWith)) s.heap.size (wX2 g aR r_action r_sets_n r_state_n r_condition ++ (wX4 g aT t_conditions t_cases t_rules t_defaultAction t_sizes t_strides t_costs t_weights t_sets t_actions t_rulesWith)) (bI r)) ([.ref (aR 0), .int x1, .ref (aT 0)] : List Value).toArray s 0 0 (va_A (wX2 g aR r_action r_sets r_state r_condition ++ (wX4 g aT t_conditions t_cases t_rules t_defaultAction t_sizes t_strides t_costs t_weights t_sets t_actions t_rulesWith)) s.heap.size)) (F0 m 0 ls []) by rw [hH, hlc] at hW; exact hW
  clear hH hlc
  refine lv_iload_n hx hb dX2_acceptValue_0 rfl (lv_at hl 1 rfl) ?_
  refine lv_bipush (v := 48) hx hb dX2_acceptValue_1 (by decide) ?_
  refine lv_isub hx hb dX2_acceptValue_3 ?_
  refine lv_istore_n (lv' := [(3, .int (x1 - (48 : Int32))), (0, .ref (aR 0)), (1, .int x1), (2, .ref (aT 0))]) hx hb dX2_acceptValue_4 rfl hl (by decide) rfl (fun ls hl => ?_)
  refine lv_aload_n hx hb dX2_acceptValue_5 rfl (lv_at hl 3 rfl) ?_
  refine lv_aload_n hx hb dX2_acceptValue_6 rfl (lv_at hl 1 rfl) ?_
  refine va_get (D := D) (ci := 2) (v := .int r_condition) (C := RX2) (T := TX2) (N := 4) hx hb hts hh0 hown hK.1 hP 0 rfl rfl 3 (by decide) hh1 (fun _ h9 => h9) rfl dX2_acceptValue_7 ?_
  refine lv_iload_n hx hb dX2_acceptValue_10 rfl (lv_at hl 0 rfl) ?_
  obtain ⟨z11, e_11, h⟩ := bd_s h
  refine cr_i (va_runV (As := [.int r_condition, .int (x1 - (48 : Int32))]) (rest := []) ⟨hx, hb, hml, hown, hts⟩ (c_X4_hasValue l D g aT t_conditions t_cases t_rules t_defaultAction t_sizes t_strides t_costs t_weights t_sets t_actions t_rulesWith r_condition (x1 - (48 : Int32)) z11 e_11) (cwV 2 hts gX2_acceptValue_X4_hasValue rfl rfl rfl ⟨rfl, pd_X4_hasValue⟩ ⟨Nat.le_of_ble_eq_true rfl, Nat.le_of_ble_eq_true rfl⟩) (pr_v hK (hP.sub (ws' := (wX4 g aT t_conditions t_cases t_rules t_defaultAction t_sizes t_strides t_costs t_weights t_sets t_actions t_rulesWith)) [2, 3, 4, 5, 6, 7, 8, 9] rfl) (q0 := 0) (ci := 4) rfl rfl rfl) rfl rfl hl.1 rfl (lv_room (Nat.le_of_ble_eq_true rfl)) dX2_acceptValue_11 ⟨Nat.zero_le _, Nat.zero_le _⟩) ?_
  refine lb_ne (tgt := 19) hx hb dX2_acceptValue_14 (by decide) (fun c14 => ?_) (fun c14 => ?_)
  · replace h := ite_t c14 h
    refine lv_aload_n hx hb dX2_acceptValue_19 rfl (lv_at hl 1 rfl) ?_
    refine va_get (D := D) (ci := 2) (v := .ref (aR 1)) (C := RX2) (T := TX2) (N := 4) hx hb hts hh0 hown hK.1 hP 0 rfl rfl 1 (by decide) hh2 (fun _ h9 => h9) rfl dX2_acceptValue_20 ?_
    refine lv_aload_n hx hb dX2_acceptValue_23 rfl (lv_at hl 1 rfl) ?_
    refine va_get (D := D) (ci := 2) (v := .int r_condition) (C := RX2) (T := TX2) (N := 4) hx hb hts hh0 hown hK.1 hP 0 rfl rfl 3 (by decide) hh1 (fun _ h9 => h9) rfl dX2_acceptValue_24 ?_
    refine lv_dup2_11 hx hb dX2_acceptValue_27 rfl rfl ?_
    have iz28 := rd_in h
    refine va_iald hx hb hK.1 hP 1 0 rfl rfl (rd_in h) dX2_acceptValue_28 (lv_topi (fun z28 ez28 => ?_))
    replace h := rd_k h ez28
    refine lv_iconst (v := 1) hx hb dX2_acceptValue_29 (by decide) ?_
    refine lv_iload_n hx hb dX2_acceptValue_30 rfl (lv_at hl 0 rfl) ?_
    refine lv_ishl hx hb dX2_acceptValue_31 ?_
    refine lv_ior hx hb dX2_acceptValue_32 ?_
    refine va_iast hx hb hK.1 hP hD hS 1 0 rfl rfl iz28 dX2_acceptValue_33 (fun H locs hP hD hS => ?_)
    replace hP : va_P D vwCl (wX2 g aR r_action (upd r_sets r_condition.toNatClampNeg (z28 ||| ((1 : Int32) <<< ((x1 - (48 : Int32)) &&& 31)))) r_state r_condition ++ (wX4 g aT t_conditions t_cases t_rules t_defaultAction t_sizes t_strides t_costs t_weights t_sets t_actions t_rulesWith)) H := hP
    replace hD : va_D (va_A (wX2 g aR r_action r_sets r_state r_condition ++ (wX4 g aT t_conditions t_cases t_rules t_defaultAction t_sizes t_strides t_costs t_weights t_sets t_actions t_rulesWith)) s.heap.size) (wX2 g aR r_action (upd r_sets r_condition.toNatClampNeg (z28 ||| ((1 : Int32) <<< ((x1 - (48 : Int32)) &&& 31)))) r_state r_condition ++ (wX4 g aT t_conditions t_cases t_rules t_defaultAction t_sizes t_strides t_costs t_weights t_sets t_actions t_rulesWith)) := hD
    refine lv_aload_n hx hb dX2_acceptValue_34 rfl (lv_at hl 1 rfl) ?_
    refine lv_iconst (v := 1) hx hb dX2_acceptValue_35 (by decide) ?_
    refine va_put (D := D) (ci := 2) (v := .int (1 : Int32)) (ty := .int) (C := RX2) (T := TX2) (N := 4) hx hb hts hh0 tyX2 tyX2_ok nmX2 hown hK.1 hP hD hS 0 rfl rfl 2 (by decide) hh3 (fun _ h9 => h9) rfl (by decide +kernel) rfl rfl (Nat.le_of_ble_eq_true rfl) dX2_acceptValue_36 (fun H locs hP hD hS => ?_)
    replace hP : va_P D vwCl (wX2 g aR r_action (upd r_sets r_condition.toNatClampNeg (z28 ||| ((1 : Int32) <<< ((x1 - (48 : Int32)) &&& 31)))) (1 : Int32) r_condition ++ (wX4 g aT t_conditions t_cases t_rules t_defaultAction t_sizes t_strides t_costs t_weights t_sets t_actions t_rulesWith)) H := hP
    replace hD : va_D (va_A (wX2 g aR r_action r_sets r_state r_condition ++ (wX4 g aT t_conditions t_cases t_rules t_defaultAction t_sizes t_strides t_costs t_weights t_sets t_actions t_rulesWith)) s.heap.size) (wX2 g aR r_action (upd r_sets r_condition.toNatClampNeg (z28 ||| ((1 : Int32) <<< ((x1 - (48 : Int32)) &&& 31)))) (1 : Int32) r_condition ++ (wX4 g aT t_conditions t_cases t_rules t_defaultAction t_sizes t_strides t_costs t_weights t_sets t_actions t_rulesWith)) := hD
    refine lv_iconst (v := 1) hx hb dX2_acceptValue_39 (by decide) ?_
    replace h := Option.some.inj h
    have hj0 := (Prod.mk.inj h).1
    have hg0 := (Prod.mk.inj h).2
    have hj1 := (Prod.mk.inj hg0).1
    have hg1 := (Prod.mk.inj hg0).2
    clear hg0
    subst hj0
    subst hj1
    subst hg1
    exact W.zret hx hb hr rfl (fun t ht hW => ⟨⟨_, (), rfl, rfl, by rw [ht]; exact hP, hD⟩, hS.F ht⟩) hS.2.2 dX2_acceptValue_40
  · replace h := ite_f c14 h
    refine lv_iconst (v := 0) hx hb dX2_acceptValue_17 (by decide) ?_
    replace h := Option.some.inj h
    have hj0 := (Prod.mk.inj h).1
    have hg0 := (Prod.mk.inj h).2
    have hj1 := (Prod.mk.inj hg0).1
    have hg1 := (Prod.mk.inj hg0).2
    clear hg0
    subst hj0
    subst hj1
    subst hg1
    exact W.zret hx hb hr rfl (fun t ht hW => ⟨⟨_, (), rfl, rfl, by rw [ht]; exact hP, hD⟩, hS.F ht⟩) hS.2.2 dX2_acceptValue_18
theorem pd_X2_acceptSeparator : yX2_acceptSeparator.cls ≠ "java/lang/invoke/MethodHandle" ∧ yX2_acceptSeparator.cls ≠ "java/lang/invoke/VarHandle" ∧ (parseMethodDescriptor yX2_acceptSeparator.desc).map (fun d => d.parameters.length) = some 2 := by decide +kernel
def f_X2_acceptSeparator (r_state : Int32) (r_condition : Int32) (t_conditions : Int32) (x1 : Int32) : Option (Bool × Int32 × Int32) :=
  (if (r_condition + (1 : Int32)) < t_conditions then (if x1 = (44 : Int32) then (some (true, (0 : Int32), (r_condition + (1 : Int32)))) else (some (false, r_state, r_condition))) else (if x1 = (58 : Int32) then (some (true, (3 : Int32), r_condition)) else (some (false, r_state, r_condition))))
set_option maxHeartbeats 4000000 in
set_option maxRecDepth 100000 in
theorem c_X2_acceptSeparator (l : Launch) (sz : Nat) (D : va_G) (g : Nat → ClassId) (aR aT : Nat → Nat) (r_action : Int32) (r_sets : Nat → Int32) (r_state : Int32) (r_condition : Int32) (t_conditions : Int32) (t_cases : Int32) (t_rules : Int32) (t_defaultAction : Int32) (t_sizes : Nat → Int32) (t_strides : Nat → Int32) (t_costs : Nat → Int32) (t_weights : Nat → Int32) (t_sets : Nat → Int32) (t_actions : Nat → Int32) (t_rulesWith : Nat → Int32) (x1 : Int32) (r : Bool) (r_state_n : Int32) (r_condition_n : Int32) (hf : f_X2_acceptSeparator r_state r_condition t_conditions x1 = some (r, r_state_n, r_condition_n)) : CM l yX2_acceptSeparator wsX2_acceptSeparator 0 0 sz D g [.ref (aR 0), .int x1, .ref (aT 0)] (wX2 g aR r_action r_sets r_state r_condition ++ (wX4 g aT t_conditions t_cases t_rules t_defaultAction t_sizes t_strides t_costs t_weights t_sets t_actions t_rulesWith)) (QMi D (wX2 g aR r_action r_sets r_state r_condition ++ (wX4 g aT t_conditions t_cases t_rules t_defaultAction t_sizes t_strides t_costs t_weights t_sets t_actions t_rulesWith)) sz (wX2 g aR r_action r_sets r_state_n r_condition_n ++ (wX4 g aT t_conditions t_cases t_rules t_defaultAction t_sizes t_strides t_costs t_weights t_sets t_actions t_rulesWith)) (bI r)) := by
  refine Met.ofW (cc := cX2_acceptSeparator) (maxL := 4) (ret := (some .boolean)) (by decide) rfl ?_
  intro p e s m args below meth c s₁ B hml hv
  obtain ⟨rfl, hsz, hP, hK, hD0⟩ := hv
  have hx := B.exec
  have hb := B.bytes
  have hr := B.returns
  have hts := atoms_spec (ws := wsX2_acceptSeparator) B.pre
  have hown : s.vm.findClass RX2 = some m.cls := findClass_of_methodNamed B.named
  have hlocks := B.notSynchronized
  have hh0 := (show ∀ w ∈ wsX20, w ∈ wsX2_acceptSeparator from by decide +kernel)
  have hh1 := hts (.fieldLink RX2 25 "DecisionTableCompiler$RuleText" "condition" "I") (by decide +kernel)
  have hh2 := (show ∀ w ∈ wsX40, w ∈ wsX2_acceptSeparator from by decide +kernel)
  have hh3 := hts (.fieldLink RX2 66 "DecisionTableCompiler$Table" "conditions" "I") (by decide +kernel)
  have hh4 := hts (.fieldLink RX2 28 "DecisionTableCompiler$RuleText" "state" "I") (by decide +kernel)
  subst hsz
  have hD := hD0.self (sz := s.heap.size)
  have hA : ∀ q : Nat, s.heap.size ≤ q → va_A (wX2 g aR r_action r_sets r_state r_condition ++ (wX4 g aT t_conditions t_cases t_rules t_defaultAction t_sizes t_strides t_costs t_weights t_sets t_actions t_rulesWith)) s.heap.size q := fun q h => Or.inr h
  have hS : va_S (va_A (wX2 g aR r_action r_sets r_state r_condition ++ (wX4 g aT t_conditions t_cases t_rules t_defaultAction t_sizes t_strides t_costs t_weights t_sets t_actions t_rulesWith)) s.heap.size) s.heap s.heap [] := va_S.rf
  have hl := lv_entry ([.ref (aR 0), .int x1, .ref (aT 0)]) (n := 4) (Nat.le_of_ble_eq_true rfl)
  rw [lg_entry_eq]
  generalize (lg_sl ([.ref (aR 0), .int x1, .ref (aT 0)]) ++ List.replicate (4 - (lg_sl ([.ref (aR 0), .int x1, .ref (aT 0)])).length) Slot.unset).toArray = ls at hl ⊢
  replace hl : lv_has ls 4 [(0, .ref (aR 0)), (1, .int x1), (2, .ref (aT 0))] := hl
  have h := hf
  unfold f_X2_acceptSeparator at h
  obtain ⟨H, hH⟩ : ∃ H, H = s.heap := ⟨_, rfl⟩
  obtain ⟨locs, hlc⟩ : ∃ q : List Loc, q = [] := ⟨_, rfl⟩
  have hS : va_S (va_A (wX2 g aR r_action r_sets r_state r_condition ++ (wX4 g aT t_conditions t_cases t_rules t_defaultAction t_sizes t_strides t_costs t_weights t_sets t_actions t_rulesWith)) s.heap.size) s.heap H locs := by rw [hH, hlc]; exact hS
  replace hP : va_P D vwCl (wX2 g aR r_action r_sets r_state r_condition ++ (wX4 g aT t_conditions t_cases t_rules t_defaultAction t_sizes t_strides t_costs t_weights t_sets t_actions t_rulesWith)) H := by rw [hH]; exact hP
  suffices hW : W p l e (headSpec wsX2_acceptSeparator ({ frames := 0, cells := 0, slots := 0, locals := 0 })).room s m ([.ref (aR 0), .int x1, .ref (aT 0)] : List Value).toArray below meth c H locs 0 0 (MQ below (QMi D (wX2 g aR r_action r_sets r_state r_condition ++ (wX4 g aT t_conditions t_cases t_rules t_defaultAction t_sizes t_strides t_costs t_weights t_sets t_actions t_rulesWith)) s.heap.size (wX2 g aR r_action r_sets r_state_n r_condition_n ++ (wX4 g aT t_conditions t_cases t_rules t_defaultAction t_sizes t_strides t_costs t_weights t_sets t_actions t_rulesWith)) (bI r)) ([.ref (aR 0), .int x1, .ref (aT 0)] : List Value).toArray s 0 0 (va_A (wX2 g aR r_action r_sets r_state r_condition ++ (wX4 g aT t_conditions t_cases t_rules t_defaultAction t_sizes t_strides t_costs t_weights t_sets t_actions t_rulesWith)) s.heap.size)) (F0 m 0 ls []) by rw [hH, hlc] at hW; exact hW
  clear hH hlc
  refine lv_aload_n hx hb dX2_acceptSeparator_0 rfl (lv_at hl 0 rfl) ?_
  refine va_get (D := D) (ci := 2) (v := .int r_condition) (C := RX2) (T := TX2) (N := 4) hx hb hts hh0 hown hK.1 hP 0 rfl rfl 3 (by decide) hh1 (fun _ h9 => h9) rfl dX2_acceptSeparator_1 ?_
  refine lv_iconst (v := 1) hx hb dX2_acceptSeparator_4 (by decide) ?_
  refine lv_iadd hx hb dX2_acceptSeparator_5 ?_
  refine lv_aload_n hx hb dX2_acceptSeparator_6 rfl (lv_at hl 2 rfl) ?_
  refine va_get (D := D) (ci := 4) (v := .int t_conditions) (C := RX4) (T := TX4) (N := 11) hx hb hts hh2 hown hK.1 hP 2 rfl rfl 0 (by decide) hh3 (fun _ h9 => h9) rfl dX2_acceptSeparator_7 ?_
  refine lv_icmp_lt (tgt := 17) hx hb dX2_acceptSeparator_10 (by decide) (fun c10 => ?_) (fun c10 => ?_)
  · replace h := ite_t c10 h
    refine lv_iconst (v := 0) hx hb dX2_acceptSeparator_17 (by decide) ?_
    refine lv_istore_n (lv' := [(3, .int (0 : Int32)), (0, .ref (aR 0)), (1, .int x1), (2, .ref (aT 0))]) hx hb dX2_acceptSeparator_18 rfl hl (by decide) rfl (fun ls hl => ?_)
    refine lv_iload_n hx hb dX2_acceptSeparator_19 rfl (lv_at hl 2 rfl) ?_
    refine lv_iload_n hx hb dX2_acceptSeparator_20 rfl (lv_at hl 0 rfl) ?_
    refine lv_if_eq (tgt := 29) hx hb dX2_acceptSeparator_21 (by decide) (fun _ => ?_) (fun q => absurd (by decide) q)
    refine lv_bipush (v := 44) hx hb dX2_acceptSeparator_29 (by decide) ?_
    refine lv_icmp_eq (tgt := 36) hx hb dX2_acceptSeparator_31 (by decide) (fun c31 => ?_) (fun c31 => ?_)
    · replace h := ite_t c31 h
      refine lv_iload_n hx hb dX2_acceptSeparator_36 rfl (lv_at hl 0 rfl) ?_
      refine lv_if_eq (tgt := 48) hx hb dX2_acceptSeparator_37 (by decide) (fun _ => ?_) (fun q => absurd (by decide) q)
      refine lv_aload_n hx hb dX2_acceptSeparator_48 rfl (lv_at hl 1 rfl) ?_
      refine lv_dup hx hb dX2_acceptSeparator_49 rfl ?_
      refine va_get (D := D) (ci := 2) (v := .int r_condition) (C := RX2) (T := TX2) (N := 4) hx hb hts hh0 hown hK.1 hP 0 rfl rfl 3 (by decide) hh1 (fun _ h9 => h9) rfl dX2_acceptSeparator_50 ?_
      refine lv_iconst (v := 1) hx hb dX2_acceptSeparator_53 (by decide) ?_
      refine lv_iadd hx hb dX2_acceptSeparator_54 ?_
      refine va_put (D := D) (ci := 2) (v := .int (r_condition + (1 : Int32))) (ty := .int) (C := RX2) (T := TX2) (N := 4) hx hb hts hh0 tyX2 tyX2_ok nmX2 hown hK.1 hP hD hS 0 rfl rfl 3 (by decide) hh1 (fun _ h9 => h9) rfl (by decide +kernel) rfl rfl (Nat.le_of_ble_eq_true rfl) dX2_acceptSeparator_55 (fun H locs hP hD hS => ?_)
      replace hP : va_P D vwCl (wX2 g aR r_action r_sets r_state (r_condition + (1 : Int32)) ++ (wX4 g aT t_conditions t_cases t_rules t_defaultAction t_sizes t_strides t_costs t_weights t_sets t_actions t_rulesWith)) H := hP
      replace hD : va_D (va_A (wX2 g aR r_action r_sets r_state r_condition ++ (wX4 g aT t_conditions t_cases t_rules t_defaultAction t_sizes t_strides t_costs t_weights t_sets t_actions t_rulesWith)) s.heap.size) (wX2 g aR r_action r_sets r_state (r_condition + (1 : Int32)) ++ (wX4 g aT t_conditions t_cases t_rules t_defaultAction t_sizes t_strides t_costs t_weights t_sets t_actions t_rulesWith)) := hD
      refine lv_aload_n hx hb dX2_acceptSeparator_58 rfl (lv_at hl 1 rfl) ?_
      refine lv_iconst (v := 0) hx hb dX2_acceptSeparator_59 (by decide) ?_
      refine va_put (D := D) (ci := 2) (v := .int (0 : Int32)) (ty := .int) (C := RX2) (T := TX2) (N := 4) hx hb hts hh0 tyX2 tyX2_ok nmX2 hown hK.1 hP hD hS 0 rfl rfl 2 (by decide) hh4 (fun _ h9 => h9) rfl (by decide +kernel) rfl rfl (Nat.le_of_ble_eq_true rfl) dX2_acceptSeparator_60 (fun H locs hP hD hS => ?_)
      replace hP : va_P D vwCl (wX2 g aR r_action r_sets (0 : Int32) (r_condition + (1 : Int32)) ++ (wX4 g aT t_conditions t_cases t_rules t_defaultAction t_sizes t_strides t_costs t_weights t_sets t_actions t_rulesWith)) H := hP
      replace hD : va_D (va_A (wX2 g aR r_action r_sets r_state r_condition ++ (wX4 g aT t_conditions t_cases t_rules t_defaultAction t_sizes t_strides t_costs t_weights t_sets t_actions t_rulesWith)) s.heap.size) (wX2 g aR r_action r_sets (0 : Int32) (r_condition + (1 : Int32)) ++ (wX4 g aT t_conditions t_cases t_rules t_defaultAction t_sizes t_strides t_costs t_weights t_sets t_actions t_rulesWith)) := hD
      refine lv_iconst (v := 1) hx hb dX2_acceptSeparator_63 (by decide) ?_
      replace h := Option.some.inj h
      have hj0 := (Prod.mk.inj h).1
      have hg0 := (Prod.mk.inj h).2
      have hj1 := (Prod.mk.inj hg0).1
      have hg1 := (Prod.mk.inj hg0).2
      clear hg0
      subst hj0
      subst hj1
      subst hg1
      exact W.zret hx hb hr rfl (fun t ht hW => ⟨⟨_, (), rfl, rfl, by rw [ht]; exact hP, hD⟩, hS.F ht⟩) hS.2.2 dX2_acceptSeparator_64
    · replace h := ite_f c31 h
      refine lv_iconst (v := 0) hx hb dX2_acceptSeparator_34 (by decide) ?_
      replace h := Option.some.inj h
      have hj0 := (Prod.mk.inj h).1
      have hg0 := (Prod.mk.inj h).2
      have hj1 := (Prod.mk.inj hg0).1
      have hg1 := (Prod.mk.inj hg0).2
      clear hg0
      subst hj0
      subst hj1
      subst hg1
      exact W.zret hx hb hr rfl (fun t ht hW => ⟨⟨_, (), rfl, rfl, by rw [ht]; exact hP, hD⟩, hS.F ht⟩) hS.2.2 dX2_acceptSeparator_35
  · replace h := ite_f c10 h
    refine lv_iconst (v := 1) hx hb dX2_acceptSeparator_13 (by decide) ?_
    refine lv_goto (tgt := 18) hx hb dX2_acceptSeparator_14 (by decide) ?_
    refine lv_istore_n (lv' := [(3, .int (1 : Int32)), (0, .ref (aR 0)), (1, .int x1), (2, .ref (aT 0))]) hx hb dX2_acceptSeparator_18 rfl hl (by decide) rfl (fun ls hl => ?_)
    refine lv_iload_n hx hb dX2_acceptSeparator_19 rfl (lv_at hl 2 rfl) ?_
    refine lv_iload_n hx hb dX2_acceptSeparator_20 rfl (lv_at hl 0 rfl) ?_
    refine lv_if_eq (tgt := 29) hx hb dX2_acceptSeparator_21 (by decide) (fun q => absurd q (by decide)) (fun _ => ?_)
    refine lv_bipush (v := 58) hx hb dX2_acceptSeparator_24 (by decide) ?_
    refine lv_goto (tgt := 31) hx hb dX2_acceptSeparator_26 (by decide) ?_
    refine lv_icmp_eq (tgt := 36) hx hb dX2_acceptSeparator_31 (by decide) (fun c31 => ?_) (fun c31 => ?_)
    · replace h := ite_t c31 h
      refine lv_iload_n hx hb dX2_acceptSeparator_36 rfl (lv_at hl 0 rfl) ?_
      refine lv_if_eq (tgt := 48) hx hb dX2_acceptSeparator_37 (by decide) (fun q => absurd q (by decide)) (fun _ => ?_)
      refine lv_aload_n hx hb dX2_acceptSeparator_40 rfl (lv_at hl 1 rfl) ?_
      refine lv_iconst (v := 3) hx hb dX2_acceptSeparator_41 (by decide) ?_
      refine va_put (D := D) (ci := 2) (v := .int (3 : Int32)) (ty := .int) (C := RX2) (T := TX2) (N := 4) hx hb hts hh0 tyX2 tyX2_ok nmX2 hown hK.1 hP hD hS 0 rfl rfl 2 (by decide) hh4 (fun _ h9 => h9) rfl (by decide +kernel) rfl rfl (Nat.le_of_ble_eq_true rfl) dX2_acceptSeparator_42 (fun H locs hP hD hS => ?_)
      replace hP : va_P D vwCl (wX2 g aR r_action r_sets (3 : Int32) r_condition ++ (wX4 g aT t_conditions t_cases t_rules t_defaultAction t_sizes t_strides t_costs t_weights t_sets t_actions t_rulesWith)) H := hP
      replace hD : va_D (va_A (wX2 g aR r_action r_sets r_state r_condition ++ (wX4 g aT t_conditions t_cases t_rules t_defaultAction t_sizes t_strides t_costs t_weights t_sets t_actions t_rulesWith)) s.heap.size) (wX2 g aR r_action r_sets (3 : Int32) r_condition ++ (wX4 g aT t_conditions t_cases t_rules t_defaultAction t_sizes t_strides t_costs t_weights t_sets t_actions t_rulesWith)) := hD
      refine lv_goto (tgt := 63) hx hb dX2_acceptSeparator_45 (by decide) ?_
      refine lv_iconst (v := 1) hx hb dX2_acceptSeparator_63 (by decide) ?_
      replace h := Option.some.inj h
      have hj0 := (Prod.mk.inj h).1
      have hg0 := (Prod.mk.inj h).2
      have hj1 := (Prod.mk.inj hg0).1
      have hg1 := (Prod.mk.inj hg0).2
      clear hg0
      subst hj0
      subst hj1
      subst hg1
      exact W.zret hx hb hr rfl (fun t ht hW => ⟨⟨_, (), rfl, rfl, by rw [ht]; exact hP, hD⟩, hS.F ht⟩) hS.2.2 dX2_acceptSeparator_64
    · replace h := ite_f c31 h
      refine lv_iconst (v := 0) hx hb dX2_acceptSeparator_34 (by decide) ?_
      replace h := Option.some.inj h
      have hj0 := (Prod.mk.inj h).1
      have hg0 := (Prod.mk.inj h).2
      have hj1 := (Prod.mk.inj hg0).1
      have hg1 := (Prod.mk.inj hg0).2
      clear hg0
      subst hj0
      subst hj1
      subst hg1
      exact W.zret hx hb hr rfl (fun t ht hW => ⟨⟨_, (), rfl, rfl, by rw [ht]; exact hP, hD⟩, hS.F ht⟩) hS.2.2 dX2_acceptSeparator_35
theorem pd_X2_acceptAction : yX2_acceptAction.cls ≠ "java/lang/invoke/MethodHandle" ∧ yX2_acceptAction.cls ≠ "java/lang/invoke/VarHandle" ∧ (parseMethodDescriptor yX2_acceptAction.desc).map (fun d => d.parameters.length) = some 1 := by decide +kernel
def f_X2_acceptAction (r_action : Int32) (r_state : Int32) (x1 : Int32) : Option (Bool × Int32 × Int32) :=
  (if x1 < (48 : Int32) then (some (false, r_action, r_state)) else (if x1 ≤ (57 : Int32) then (some (true, (x1 - (48 : Int32)), (4 : Int32))) else (some (false, r_action, r_state))))
set_option maxHeartbeats 4000000 in
set_option maxRecDepth 100000 in
theorem c_X2_acceptAction (l : Launch) (sz : Nat) (D : va_G) (g : Nat → ClassId) (aR : Nat → Nat) (r_action : Int32) (r_sets : Nat → Int32) (r_state : Int32) (r_condition : Int32) (x1 : Int32) (r : Bool) (r_action_n : Int32) (r_state_n : Int32) (hf : f_X2_acceptAction r_action r_state x1 = some (r, r_action_n, r_state_n)) : CM l yX2_acceptAction wsX2_acceptAction 0 0 sz D g [.ref (aR 0), .int x1] (wX2 g aR r_action r_sets r_state r_condition) (QMi D (wX2 g aR r_action r_sets r_state r_condition) sz (wX2 g aR r_action_n r_sets r_state_n r_condition) (bI r)) := by
  refine Met.ofW (cc := cX2_acceptAction) (maxL := 2) (ret := (some .boolean)) (by decide) rfl ?_
  intro p e s m args below meth c s₁ B hml hv
  obtain ⟨rfl, hsz, hP, hK, hD0⟩ := hv
  have hx := B.exec
  have hb := B.bytes
  have hr := B.returns
  have hts := atoms_spec (ws := wsX2_acceptAction) B.pre
  have hown : s.vm.findClass RX2 = some m.cls := findClass_of_methodNamed B.named
  have hlocks := B.notSynchronized
  have hh0 := (show ∀ w ∈ wsX20, w ∈ wsX2_acceptAction from by decide +kernel)
  have hh1 := hts (.fieldLink RX2 21 "DecisionTableCompiler$RuleText" "action" "I") (by decide +kernel)
  have hh2 := hts (.fieldLink RX2 28 "DecisionTableCompiler$RuleText" "state" "I") (by decide +kernel)
  subst hsz
  have hD := hD0.self (sz := s.heap.size)
  have hA : ∀ q : Nat, s.heap.size ≤ q → va_A (wX2 g aR r_action r_sets r_state r_condition) s.heap.size q := fun q h => Or.inr h
  have hS : va_S (va_A (wX2 g aR r_action r_sets r_state r_condition) s.heap.size) s.heap s.heap [] := va_S.rf
  have hl := lv_entry ([.ref (aR 0), .int x1]) (n := 2) (Nat.le_of_ble_eq_true rfl)
  rw [lg_entry_eq]
  generalize (lg_sl ([.ref (aR 0), .int x1]) ++ List.replicate (2 - (lg_sl ([.ref (aR 0), .int x1])).length) Slot.unset).toArray = ls at hl ⊢
  replace hl : lv_has ls 2 [(0, .ref (aR 0)), (1, .int x1)] := hl
  have h := hf
  unfold f_X2_acceptAction at h
  obtain ⟨H, hH⟩ : ∃ H, H = s.heap := ⟨_, rfl⟩
  obtain ⟨locs, hlc⟩ : ∃ q : List Loc, q = [] := ⟨_, rfl⟩
  have hS : va_S (va_A (wX2 g aR r_action r_sets r_state r_condition) s.heap.size) s.heap H locs := by rw [hH, hlc]; exact hS
  replace hP : va_P D vwCl (wX2 g aR r_action r_sets r_state r_condition) H := by rw [hH]; exact hP
  suffices hW : W p l e (headSpec wsX2_acceptAction ({ frames := 0, cells := 0, slots := 0, locals := 0 })).room s m ([.ref (aR 0), .int x1] : List Value).toArray below meth c H locs 0 0 (MQ below (QMi D (wX2 g aR r_action r_sets r_state r_condition) s.heap.size (wX2 g aR r_action_n r_sets r_state_n r_condition) (bI r)) ([.ref (aR 0), .int x1] : List Value).toArray s 0 0 (va_A (wX2 g aR r_action r_sets r_state r_condition) s.heap.size)) (F0 m 0 ls []) by rw [hH, hlc] at hW; exact hW
  clear hH hlc
  refine lv_iload_n hx hb dX2_acceptAction_0 rfl (lv_at hl 1 rfl) ?_
  refine lv_bipush (v := 48) hx hb dX2_acceptAction_1 (by decide) ?_
  refine lv_icmp_lt (tgt := 12) hx hb dX2_acceptAction_3 (by decide) (fun c3 => ?_) (fun c3 => ?_)
  · replace h := ite_t c3 h
    refine lv_iconst (v := 0) hx hb dX2_acceptAction_12 (by decide) ?_
    replace h := Option.some.inj h
    have hj0 := (Prod.mk.inj h).1
    have hg0 := (Prod.mk.inj h).2
    have hj1 := (Prod.mk.inj hg0).1
    have hg1 := (Prod.mk.inj hg0).2
    clear hg0
    subst hj0
    subst hj1
    subst hg1
    exact W.zret hx hb hr rfl (fun t ht hW => ⟨⟨_, (), rfl, rfl, by rw [ht]; exact hP, hD⟩, hS.F ht⟩) hS.2.2 dX2_acceptAction_13
  · replace h := ite_f c3 h
    refine lv_iload_n hx hb dX2_acceptAction_6 rfl (lv_at hl 1 rfl) ?_
    refine lv_bipush (v := 57) hx hb dX2_acceptAction_7 (by decide) ?_
    refine lv_icmp_le (tgt := 14) hx hb dX2_acceptAction_9 (by decide) (fun c9 => ?_) (fun c9 => ?_)
    · replace h := ite_t c9 h
      refine lv_aload_n hx hb dX2_acceptAction_14 rfl (lv_at hl 0 rfl) ?_
      refine lv_iload_n hx hb dX2_acceptAction_15 rfl (lv_at hl 1 rfl) ?_
      refine lv_bipush (v := 48) hx hb dX2_acceptAction_16 (by decide) ?_
      refine lv_isub hx hb dX2_acceptAction_18 ?_
      refine va_put (D := D) (ci := 2) (v := .int (x1 - (48 : Int32))) (ty := .int) (C := RX2) (T := TX2) (N := 4) hx hb hts hh0 tyX2 tyX2_ok nmX2 hown hK.1 hP hD hS 0 rfl rfl 0 (by decide) hh1 (fun _ h9 => h9) rfl (by decide +kernel) rfl rfl (Nat.le_of_ble_eq_true rfl) dX2_acceptAction_19 (fun H locs hP hD hS => ?_)
      replace hP : va_P D vwCl (wX2 g aR (x1 - (48 : Int32)) r_sets r_state r_condition) H := hP
      replace hD : va_D (va_A (wX2 g aR r_action r_sets r_state r_condition) s.heap.size) (wX2 g aR (x1 - (48 : Int32)) r_sets r_state r_condition) := hD
      refine lv_aload_n hx hb dX2_acceptAction_22 rfl (lv_at hl 0 rfl) ?_
      refine lv_iconst (v := 4) hx hb dX2_acceptAction_23 (by decide) ?_
      refine va_put (D := D) (ci := 2) (v := .int (4 : Int32)) (ty := .int) (C := RX2) (T := TX2) (N := 4) hx hb hts hh0 tyX2 tyX2_ok nmX2 hown hK.1 hP hD hS 0 rfl rfl 2 (by decide) hh2 (fun _ h9 => h9) rfl (by decide +kernel) rfl rfl (Nat.le_of_ble_eq_true rfl) dX2_acceptAction_24 (fun H locs hP hD hS => ?_)
      replace hP : va_P D vwCl (wX2 g aR (x1 - (48 : Int32)) r_sets (4 : Int32) r_condition) H := hP
      replace hD : va_D (va_A (wX2 g aR r_action r_sets r_state r_condition) s.heap.size) (wX2 g aR (x1 - (48 : Int32)) r_sets (4 : Int32) r_condition) := hD
      refine lv_iconst (v := 1) hx hb dX2_acceptAction_27 (by decide) ?_
      replace h := Option.some.inj h
      have hj0 := (Prod.mk.inj h).1
      have hg0 := (Prod.mk.inj h).2
      have hj1 := (Prod.mk.inj hg0).1
      have hg1 := (Prod.mk.inj hg0).2
      clear hg0
      subst hj0
      subst hj1
      subst hg1
      exact W.zret hx hb hr rfl (fun t ht hW => ⟨⟨_, (), rfl, rfl, by rw [ht]; exact hP, hD⟩, hS.F ht⟩) hS.2.2 dX2_acceptAction_28
    · replace h := ite_f c9 h
      refine lv_iconst (v := 0) hx hb dX2_acceptAction_12 (by decide) ?_
      replace h := Option.some.inj h
      have hj0 := (Prod.mk.inj h).1
      have hg0 := (Prod.mk.inj h).2
      have hj1 := (Prod.mk.inj hg0).1
      have hg1 := (Prod.mk.inj hg0).2
      clear hg0
      subst hj0
      subst hj1
      subst hg1
      exact W.zret hx hb hr rfl (fun t ht hW => ⟨⟨_, (), rfl, rfl, by rw [ht]; exact hP, hD⟩, hS.F ht⟩) hS.2.2 dX2_acceptAction_13
theorem pd_X2_accept : yX2_accept.cls ≠ "java/lang/invoke/MethodHandle" ∧ yX2_accept.cls ≠ "java/lang/invoke/VarHandle" ∧ (parseMethodDescriptor yX2_accept.desc).map (fun d => d.parameters.length) = some 2 := by decide +kernel
def f_X2_accept (r_action : Int32) (r_sets : Nat → Int32) (r_state : Int32) (r_condition : Int32) (t_conditions : Int32) (t_sizes : Nat → Int32) (x1 : Int32) : Option (Bool × Int32 × (Nat → Int32) × Int32 × Int32) :=
  (if r_state = (0 : Int32) then (bd3 (f_X2_acceptStar r_sets r_state r_condition t_sizes x1) fun z39 w39_0 w39_1 => (if z39 = true then (some (true, r_action, w39_0, w39_1, r_condition)) else (bd3 (f_X2_acceptValue w39_0 w39_1 r_condition t_conditions t_sizes x1) fun z48 w48_0 w48_1 => (if z48 = true then (some (true, r_action, w48_0, w48_1, r_condition)) else (some (false, r_action, w48_0, w48_1, r_condition)))))) else (if r_state = (1 : Int32) then (bd3 (f_X2_acceptValue r_sets r_state r_condition t_conditions t_sizes x1) fun z63 w63_0 w63_1 => (if z63 = true then (some (true, r_action, w63_0, w63_1, r_condition)) else (bd3 (f_X2_acceptSeparator w63_1 r_condition t_conditions x1) fun z72 w72_0 w72_1 => (if z72 = true then (some (true, r_action, w63_0, w72_0, w72_1)) else (some (false, r_action, w63_0, w72_0, w72_1)))))) else (if r_state = (2 : Int32) then (bd3 (f_X2_acceptSeparator r_state r_condition t_conditions x1) fun z87 w87_0 w87_1 => (some (z87, r_action, r_sets, w87_0, w87_1))) else (if r_state = (3 : Int32) then (bd3 (f_X2_acceptAction r_action r_state x1) fun z93 w93_0 w93_1 => (some (z93, w93_0, r_sets, w93_1, r_condition))) else (some (false, r_action, r_sets, r_state, r_condition))))))
set_option maxHeartbeats 4000000 in
set_option maxRecDepth 100000 in
theorem c_X2_accept (l : Launch) (sz : Nat) (D : va_G) (g : Nat → ClassId) (aR aT : Nat → Nat) (r_action : Int32) (r_sets : Nat → Int32) (r_state : Int32) (r_condition : Int32) (t_conditions : Int32) (t_cases : Int32) (t_rules : Int32) (t_defaultAction : Int32) (t_sizes : Nat → Int32) (t_strides : Nat → Int32) (t_costs : Nat → Int32) (t_weights : Nat → Int32) (t_sets : Nat → Int32) (t_actions : Nat → Int32) (t_rulesWith : Nat → Int32) (x1 : Int32) (r : Bool) (r_action_n : Int32) (r_sets_n : Nat → Int32) (r_state_n : Int32) (r_condition_n : Int32) (hf : f_X2_accept r_action r_sets r_state r_condition t_conditions t_sizes x1 = some (r, r_action_n, r_sets_n, r_state_n, r_condition_n)) : CM l yX2_accept wsX2_accept 3 66 sz D g [.ref (aR 0), .int x1, .ref (aT 0)] (wX2 g aR r_action r_sets r_state r_condition ++ (wX4 g aT t_conditions t_cases t_rules t_defaultAction t_sizes t_strides t_costs t_weights t_sets t_actions t_rulesWith)) (QMi D (wX2 g aR r_action r_sets r_state r_condition ++ (wX4 g aT t_conditions t_cases t_rules t_defaultAction t_sizes t_strides t_costs t_weights t_sets t_actions t_rulesWith)) sz (wX2 g aR r_action_n r_sets_n r_state_n r_condition_n ++ (wX4 g aT t_conditions t_cases t_rules t_defaultAction t_sizes t_strides t_costs t_weights t_sets t_actions t_rulesWith)) (bI r)) := by
  refine Met.ofW (cc := cX2_accept) (maxL := 3) (ret := (some .boolean)) (by decide) rfl ?_
  intro p e s m args below meth c s₁ B hml hv
  obtain ⟨rfl, hsz, hP, hK, hD0⟩ := hv
  have hx := B.exec
  have hb := B.bytes
  have hr := B.returns
  have hts := atoms_spec (ws := wsX2_accept) B.pre
  have hown : s.vm.findClass RX2 = some m.cls := findClass_of_methodNamed B.named
  have hlocks := B.notSynchronized
  have hh0 := (show ∀ w ∈ wsX20, w ∈ wsX2_accept from by decide +kernel)
  have hh1 := hts (.fieldLink RX2 28 "DecisionTableCompiler$RuleText" "state" "I") (by decide +kernel)
  subst hsz
  have hD := hD0.self (sz := s.heap.size)
  have hA : ∀ q : Nat, s.heap.size ≤ q → va_A (wX2 g aR r_action r_sets r_state r_condition ++ (wX4 g aT t_conditions t_cases t_rules t_defaultAction t_sizes t_strides t_costs t_weights t_sets t_actions t_rulesWith)) s.heap.size q := fun q h => Or.inr h
  have hS : va_S (va_A (wX2 g aR r_action r_sets r_state r_condition ++ (wX4 g aT t_conditions t_cases t_rules t_defaultAction t_sizes t_strides t_costs t_weights t_sets t_actions t_rulesWith)) s.heap.size) s.heap s.heap [] := va_S.rf
  have hl := lv_entry ([.ref (aR 0), .int x1, .ref (aT 0)]) (n := 3) (Nat.le_of_ble_eq_true rfl)
  rw [lg_entry_eq]
  generalize (lg_sl ([.ref (aR 0), .int x1, .ref (aT 0)]) ++ List.replicate (3 - (lg_sl ([.ref (aR 0), .int x1, .ref (aT 0)])).length) Slot.unset).toArray = ls at hl ⊢
  replace hl : lv_has ls 3 [(0, .ref (aR 0)), (1, .int x1), (2, .ref (aT 0))] := hl
  have h := hf
  unfold f_X2_accept at h
  obtain ⟨H, hH⟩ : ∃ H, H = s.heap := ⟨_, rfl⟩
  obtain ⟨locs, hlc⟩ : ∃ q : List Loc, q = [] := ⟨_, rfl⟩
  have hS : va_S (va_A (wX2 g aR r_action r_sets r_state r_condition ++ (wX4 g aT t_conditions t_cases t_rules t_defaultAction t_sizes t_strides t_costs t_weights t_sets t_actions t_rulesWith)) s.heap.size) s.heap H locs := by rw [hH, hlc]; exact hS
  replace hP : va_P D vwCl (wX2 g aR r_action r_sets r_state r_condition ++ (wX4 g aT t_conditions t_cases t_rules t_defaultAction t_sizes t_strides t_costs t_weights t_sets t_actions t_rulesWith)) H := by rw [hH]; exact hP
  suffices hW : W p l e (headSpec wsX2_accept ({ frames := 3, cells := 0, slots := 0, locals := 66 })).room s m ([.ref (aR 0), .int x1, .ref (aT 0)] : List Value).toArray below meth c H locs 0 0 (MQ below (QMi D (wX2 g aR r_action r_sets r_state r_condition ++ (wX4 g aT t_conditions t_cases t_rules t_defaultAction t_sizes t_strides t_costs t_weights t_sets t_actions t_rulesWith)) s.heap.size (wX2 g aR r_action_n r_sets_n r_state_n r_condition_n ++ (wX4 g aT t_conditions t_cases t_rules t_defaultAction t_sizes t_strides t_costs t_weights t_sets t_actions t_rulesWith)) (bI r)) ([.ref (aR 0), .int x1, .ref (aT 0)] : List Value).toArray s 0 0 (va_A (wX2 g aR r_action r_sets r_state r_condition ++ (wX4 g aT t_conditions t_cases t_rules t_defaultAction t_sizes t_strides t_costs t_weights t_sets t_actions t_rulesWith)) s.heap.size)) (F0 m 0 ls []) by rw [hH, hlc] at hW; exact hW
  clear hH hlc
  refine lv_aload_n hx hb dX2_accept_0 rfl (lv_at hl 0 rfl) ?_
  refine va_get (D := D) (ci := 2) (v := .int r_state) (C := RX2) (T := TX2) (N := 4) hx hb hts hh0 hown hK.1 hP 0 rfl rfl 2 (by decide) hh1 (fun _ h9 => h9) rfl dX2_accept_1 ?_
  by_cases c4_0 : r_state = (0 : Int32)
  · replace h := ite_t c4_0 h
    refine lv_tableIn (off := 32) (tgt := 36) hx hb dX2_accept_4 (by rw [c4_0]; decide) (by rw [c4_0]; decide) (by rw [c4_0]; rfl) (by decide) ?_
    refine lv_aload_n hx hb dX2_accept_36 rfl (lv_at hl 0 rfl) ?_
    refine lv_iload_n hx hb dX2_accept_37 rfl (lv_at hl 1 rfl) ?_
    refine lv_aload_n hx hb dX2_accept_38 rfl (lv_at hl 2 rfl) ?_
    obtain ⟨z39, w39_0, w39_1, e_39, h⟩ := bd3_s h
    refine cm_i (ws := (wX2 g aR r_action r_sets r_state r_condition ++ (wX4 g aT t_conditions t_cases t_rules t_defaultAction t_sizes t_strides t_costs t_weights t_sets t_actions t_rulesWith))) (isC := [0, 1, 2, 3, 4, 5, 6, 7, 8, 9]) (va_runV (As := [.int x1, .ref (aT 0)]) (rest := []) ⟨hx, hb, hml, hown, hts⟩ (c_X2_acceptStar l H.size D g aR aT r_action r_sets r_state r_condition t_conditions t_cases t_rules t_defaultAction t_sizes t_strides t_costs t_weights t_sets t_actions t_rulesWith x1 z39 w39_0 w39_1 e_39) (cwV 2 hts gX2_accept_X2_acceptStar rfl rfl rfl ⟨rfl, pd_X2_acceptStar⟩ ⟨Nat.le_of_ble_eq_true rfl, Nat.le_of_ble_eq_true rfl⟩) (pw_v hK hP hD (q0 := 0) (ci := 2) rfl rfl rfl) rfl rfl hl.1 rfl (lv_room (Nat.le_of_ble_eq_true rfl)) dX2_accept_39 ⟨Nat.zero_le _, Nat.zero_le _⟩) hP hD hS hA rfl [] (wr := []) rfl (by decide) (by decide) [0, 1, 2, 3, 4, 5, 6, 7, 8, 9] (w2 := (wX2 g aR r_action w39_0 w39_1 r_condition ++ (wX4 g aT t_conditions t_cases t_rules t_defaultAction t_sizes t_strides t_costs t_weights t_sets t_actions t_rulesWith))) rfl (by decide) (fun H locs hP hD hS => ?_)
    refine lb_ne (tgt := 54) hx hb dX2_accept_42 (by decide) (fun c42 => ?_) (fun c42 => ?_)
    · replace h := ite_t c42 h
      refine lv_iconst (v := 1) hx hb dX2_accept_54 (by decide) ?_
      refine lv_goto (tgt := 59) hx hb dX2_accept_55 (by decide) ?_
      replace h := Option.some.inj h
      have hj0 := (Prod.mk.inj h).1
      have hg0 := (Prod.mk.inj h).2
      have hj1 := (Prod.mk.inj hg0).1
      have hg1 := (Prod.mk.inj hg0).2
      have hj2 := (Prod.mk.inj hg1).1
      have hg2 := (Prod.mk.inj hg1).2
      have hj3 := (Prod.mk.inj hg2).1
      have hg3 := (Prod.mk.inj hg2).2
      clear hg0
      clear hg1
      clear hg2
      subst hj0
      subst hj1
      subst hj2
      subst hj3
      subst hg3
      exact W.zret hx hb hr rfl (fun t ht hW => ⟨⟨_, (), rfl, rfl, by rw [ht]; exact hP, hD⟩, hS.F ht⟩) hS.2.2 dX2_accept_59
    · replace h := ite_f c42 h
      refine lv_aload_n hx hb dX2_accept_45 rfl (lv_at hl 0 rfl) ?_
      refine lv_iload_n hx hb dX2_accept_46 rfl (lv_at hl 1 rfl) ?_
      refine lv_aload_n hx hb dX2_accept_47 rfl (lv_at hl 2 rfl) ?_
      obtain ⟨z48, w48_0, w48_1, e_48, h⟩ := bd3_s h
      refine cm_i (ws := (wX2 g aR r_action w39_0 w39_1 r_condition ++ (wX4 g aT t_conditions t_cases t_rules t_defaultAction t_sizes t_strides t_costs t_weights t_sets t_actions t_rulesWith))) (isC := [0, 1, 2, 3, 4, 5, 6, 7, 8, 9]) (va_runV (As := [.int x1, .ref (aT 0)]) (rest := []) ⟨hx, hb, hml, hown, hts⟩ (c_X2_acceptValue l H.size D g aR aT r_action w39_0 w39_1 r_condition t_conditions t_cases t_rules t_defaultAction t_sizes t_strides t_costs t_weights t_sets t_actions t_rulesWith x1 z48 w48_0 w48_1 e_48) (cwV 2 hts gX2_accept_X2_acceptValue rfl rfl rfl ⟨rfl, pd_X2_acceptValue⟩ ⟨Nat.le_of_ble_eq_true rfl, Nat.le_of_ble_eq_true rfl⟩) (pw_v hK hP hD (q0 := 0) (ci := 2) rfl rfl rfl) rfl rfl hl.1 rfl (lv_room (Nat.le_of_ble_eq_true rfl)) dX2_accept_48 ⟨Nat.zero_le _, Nat.zero_le _⟩) hP hD hS hA rfl [] (wr := []) rfl (by decide) (by decide) [0, 1, 2, 3, 4, 5, 6, 7, 8, 9] (w2 := (wX2 g aR r_action w48_0 w48_1 r_condition ++ (wX4 g aT t_conditions t_cases t_rules t_defaultAction t_sizes t_strides t_costs t_weights t_sets t_actions t_rulesWith))) rfl (by decide) (fun H locs hP hD hS => ?_)
      refine lb_eq (tgt := 58) hx hb dX2_accept_51 (by decide) (fun c51 => ?_) (fun c51 => ?_)
      · replace h := ite_t c51 h
        refine lv_iconst (v := 1) hx hb dX2_accept_54 (by decide) ?_
        refine lv_goto (tgt := 59) hx hb dX2_accept_55 (by decide) ?_
        replace h := Option.some.inj h
        have hj0 := (Prod.mk.inj h).1
        have hg0 := (Prod.mk.inj h).2
        have hj1 := (Prod.mk.inj hg0).1
        have hg1 := (Prod.mk.inj hg0).2
        have hj2 := (Prod.mk.inj hg1).1
        have hg2 := (Prod.mk.inj hg1).2
        have hj3 := (Prod.mk.inj hg2).1
        have hg3 := (Prod.mk.inj hg2).2
        clear hg0
        clear hg1
        clear hg2
        subst hj0
        subst hj1
        subst hj2
        subst hj3
        subst hg3
        exact W.zret hx hb hr rfl (fun t ht hW => ⟨⟨_, (), rfl, rfl, by rw [ht]; exact hP, hD⟩, hS.F ht⟩) hS.2.2 dX2_accept_59
      · replace h := ite_f c51 h
        refine lv_iconst (v := 0) hx hb dX2_accept_58 (by decide) ?_
        replace h := Option.some.inj h
        have hj0 := (Prod.mk.inj h).1
        have hg0 := (Prod.mk.inj h).2
        have hj1 := (Prod.mk.inj hg0).1
        have hg1 := (Prod.mk.inj hg0).2
        have hj2 := (Prod.mk.inj hg1).1
        have hg2 := (Prod.mk.inj hg1).2
        have hj3 := (Prod.mk.inj hg2).1
        have hg3 := (Prod.mk.inj hg2).2
        clear hg0
        clear hg1
        clear hg2
        subst hj0
        subst hj1
        subst hj2
        subst hj3
        subst hg3
        exact W.zret hx hb hr rfl (fun t ht hW => ⟨⟨_, (), rfl, rfl, by rw [ht]; exact hP, hD⟩, hS.F ht⟩) hS.2.2 dX2_accept_59
  · replace h := ite_f c4_0 h
    by_cases c4_1 : r_state = (1 : Int32)
    · replace h := ite_t c4_1 h
      refine lv_tableIn (off := 56) (tgt := 60) hx hb dX2_accept_4 (by rw [c4_1]; decide) (by rw [c4_1]; decide) (by rw [c4_1]; rfl) (by decide) ?_
      refine lv_aload_n hx hb dX2_accept_60 rfl (lv_at hl 0 rfl) ?_
      refine lv_iload_n hx hb dX2_accept_61 rfl (lv_at hl 1 rfl) ?_
      refine lv_aload_n hx hb dX2_accept_62 rfl (lv_at hl 2 rfl) ?_
      obtain ⟨z63, w63_0, w63_1, e_63, h⟩ := bd3_s h
      refine cm_i (ws := (wX2 g aR r_action r_sets r_state r_condition ++ (wX4 g aT t_conditions t_cases t_rules t_defaultAction t_sizes t_strides t_costs t_weights t_sets t_actions t_rulesWith))) (isC := [0, 1, 2, 3, 4, 5, 6, 7, 8, 9]) (va_runV (As := [.int x1, .ref (aT 0)]) (rest := []) ⟨hx, hb, hml, hown, hts⟩ (c_X2_acceptValue l H.size D g aR aT r_action r_sets r_state r_condition t_conditions t_cases t_rules t_defaultAction t_sizes t_strides t_costs t_weights t_sets t_actions t_rulesWith x1 z63 w63_0 w63_1 e_63) (cwV 2 hts gX2_accept_X2_acceptValue rfl rfl rfl ⟨rfl, pd_X2_acceptValue⟩ ⟨Nat.le_of_ble_eq_true rfl, Nat.le_of_ble_eq_true rfl⟩) (pw_v hK hP hD (q0 := 0) (ci := 2) rfl rfl rfl) rfl rfl hl.1 rfl (lv_room (Nat.le_of_ble_eq_true rfl)) dX2_accept_63 ⟨Nat.zero_le _, Nat.zero_le _⟩) hP hD hS hA rfl [] (wr := []) rfl (by decide) (by decide) [0, 1, 2, 3, 4, 5, 6, 7, 8, 9] (w2 := (wX2 g aR r_action w63_0 w63_1 r_condition ++ (wX4 g aT t_conditions t_cases t_rules t_defaultAction t_sizes t_strides t_costs t_weights t_sets t_actions t_rulesWith))) rfl (by decide) (fun H locs hP hD hS => ?_)
      refine lb_ne (tgt := 78) hx hb dX2_accept_66 (by decide) (fun c66 => ?_) (fun c66 => ?_)
      · replace h := ite_t c66 h
        refine lv_iconst (v := 1) hx hb dX2_accept_78 (by decide) ?_
        refine lv_goto (tgt := 83) hx hb dX2_accept_79 (by decide) ?_
        replace h := Option.some.inj h
        have hj0 := (Prod.mk.inj h).1
        have hg0 := (Prod.mk.inj h).2
        have hj1 := (Prod.mk.inj hg0).1
        have hg1 := (Prod.mk.inj hg0).2
        have hj2 := (Prod.mk.inj hg1).1
        have hg2 := (Prod.mk.inj hg1).2
        have hj3 := (Prod.mk.inj hg2).1
        have hg3 := (Prod.mk.inj hg2).2
        clear hg0
        clear hg1
        clear hg2
        subst hj0
        subst hj1
        subst hj2
        subst hj3
        subst hg3
        exact W.zret hx hb hr rfl (fun t ht hW => ⟨⟨_, (), rfl, rfl, by rw [ht]; exact hP, hD⟩, hS.F ht⟩) hS.2.2 dX2_accept_83
      · replace h := ite_f c66 h
        refine lv_aload_n hx hb dX2_accept_69 rfl (lv_at hl 0 rfl) ?_
        refine lv_iload_n hx hb dX2_accept_70 rfl (lv_at hl 1 rfl) ?_
        refine lv_aload_n hx hb dX2_accept_71 rfl (lv_at hl 2 rfl) ?_
        obtain ⟨z72, w72_0, w72_1, e_72, h⟩ := bd3_s h
        refine cm_i (ws := (wX2 g aR r_action w63_0 w63_1 r_condition ++ (wX4 g aT t_conditions t_cases t_rules t_defaultAction t_sizes t_strides t_costs t_weights t_sets t_actions t_rulesWith))) (isC := [0, 1, 2, 3, 4, 5, 6, 7, 8, 9]) (va_runV (As := [.int x1, .ref (aT 0)]) (rest := []) ⟨hx, hb, hml, hown, hts⟩ (c_X2_acceptSeparator l H.size D g aR aT r_action w63_0 w63_1 r_condition t_conditions t_cases t_rules t_defaultAction t_sizes t_strides t_costs t_weights t_sets t_actions t_rulesWith x1 z72 w72_0 w72_1 e_72) (cwV 2 hts gX2_accept_X2_acceptSeparator rfl rfl rfl ⟨rfl, pd_X2_acceptSeparator⟩ ⟨Nat.le_of_ble_eq_true rfl, Nat.le_of_ble_eq_true rfl⟩) (pw_v hK hP hD (q0 := 0) (ci := 2) rfl rfl rfl) rfl rfl hl.1 rfl (lv_room (Nat.le_of_ble_eq_true rfl)) dX2_accept_72 ⟨Nat.zero_le _, Nat.zero_le _⟩) hP hD hS hA rfl [] (wr := []) rfl (by decide) (by decide) [0, 1, 2, 3, 4, 5, 6, 7, 8, 9] (w2 := (wX2 g aR r_action w63_0 w72_0 w72_1 ++ (wX4 g aT t_conditions t_cases t_rules t_defaultAction t_sizes t_strides t_costs t_weights t_sets t_actions t_rulesWith))) rfl (by decide) (fun H locs hP hD hS => ?_)
        refine lb_eq (tgt := 82) hx hb dX2_accept_75 (by decide) (fun c75 => ?_) (fun c75 => ?_)
        · replace h := ite_t c75 h
          refine lv_iconst (v := 1) hx hb dX2_accept_78 (by decide) ?_
          refine lv_goto (tgt := 83) hx hb dX2_accept_79 (by decide) ?_
          replace h := Option.some.inj h
          have hj0 := (Prod.mk.inj h).1
          have hg0 := (Prod.mk.inj h).2
          have hj1 := (Prod.mk.inj hg0).1
          have hg1 := (Prod.mk.inj hg0).2
          have hj2 := (Prod.mk.inj hg1).1
          have hg2 := (Prod.mk.inj hg1).2
          have hj3 := (Prod.mk.inj hg2).1
          have hg3 := (Prod.mk.inj hg2).2
          clear hg0
          clear hg1
          clear hg2
          subst hj0
          subst hj1
          subst hj2
          subst hj3
          subst hg3
          exact W.zret hx hb hr rfl (fun t ht hW => ⟨⟨_, (), rfl, rfl, by rw [ht]; exact hP, hD⟩, hS.F ht⟩) hS.2.2 dX2_accept_83
        · replace h := ite_f c75 h
          refine lv_iconst (v := 0) hx hb dX2_accept_82 (by decide) ?_
          replace h := Option.some.inj h
          have hj0 := (Prod.mk.inj h).1
          have hg0 := (Prod.mk.inj h).2
          have hj1 := (Prod.mk.inj hg0).1
          have hg1 := (Prod.mk.inj hg0).2
          have hj2 := (Prod.mk.inj hg1).1
          have hg2 := (Prod.mk.inj hg1).2
          have hj3 := (Prod.mk.inj hg2).1
          have hg3 := (Prod.mk.inj hg2).2
          clear hg0
          clear hg1
          clear hg2
          subst hj0
          subst hj1
          subst hj2
          subst hj3
          subst hg3
          exact W.zret hx hb hr rfl (fun t ht hW => ⟨⟨_, (), rfl, rfl, by rw [ht]; exact hP, hD⟩, hS.F ht⟩) hS.2.2 dX2_accept_83
    · replace h := ite_f c4_1 h
      by_cases c4_2 : r_state = (2 : Int32)
      · replace h := ite_t c4_2 h
        refine lv_tableIn (off := 80) (tgt := 84) hx hb dX2_accept_4 (by rw [c4_2]; decide) (by rw [c4_2]; decide) (by rw [c4_2]; rfl) (by decide) ?_
        refine lv_aload_n hx hb dX2_accept_84 rfl (lv_at hl 0 rfl) ?_
        refine lv_iload_n hx hb dX2_accept_85 rfl (lv_at hl 1 rfl) ?_
        refine lv_aload_n hx hb dX2_accept_86 rfl (lv_at hl 2 rfl) ?_
        obtain ⟨z87, w87_0, w87_1, e_87, h⟩ := bd3_s h
        refine cm_i (ws := (wX2 g aR r_action r_sets r_state r_condition ++ (wX4 g aT t_conditions t_cases t_rules t_defaultAction t_sizes t_strides t_costs t_weights t_sets t_actions t_rulesWith))) (isC := [0, 1, 2, 3, 4, 5, 6, 7, 8, 9]) (va_runV (As := [.int x1, .ref (aT 0)]) (rest := []) ⟨hx, hb, hml, hown, hts⟩ (c_X2_acceptSeparator l H.size D g aR aT r_action r_sets r_state r_condition t_conditions t_cases t_rules t_defaultAction t_sizes t_strides t_costs t_weights t_sets t_actions t_rulesWith x1 z87 w87_0 w87_1 e_87) (cwV 2 hts gX2_accept_X2_acceptSeparator rfl rfl rfl ⟨rfl, pd_X2_acceptSeparator⟩ ⟨Nat.le_of_ble_eq_true rfl, Nat.le_of_ble_eq_true rfl⟩) (pw_v hK hP hD (q0 := 0) (ci := 2) rfl rfl rfl) rfl rfl hl.1 rfl (lv_room (Nat.le_of_ble_eq_true rfl)) dX2_accept_87 ⟨Nat.zero_le _, Nat.zero_le _⟩) hP hD hS hA rfl [] (wr := []) rfl (by decide) (by decide) [0, 1, 2, 3, 4, 5, 6, 7, 8, 9] (w2 := (wX2 g aR r_action r_sets w87_0 w87_1 ++ (wX4 g aT t_conditions t_cases t_rules t_defaultAction t_sizes t_strides t_costs t_weights t_sets t_actions t_rulesWith))) rfl (by decide) (fun H locs hP hD hS => ?_)
        replace h := Option.some.inj h
        have hj0 := (Prod.mk.inj h).1
        have hg0 := (Prod.mk.inj h).2
        have hj1 := (Prod.mk.inj hg0).1
        have hg1 := (Prod.mk.inj hg0).2
        have hj2 := (Prod.mk.inj hg1).1
        have hg2 := (Prod.mk.inj hg1).2
        have hj3 := (Prod.mk.inj hg2).1
        have hg3 := (Prod.mk.inj hg2).2
        clear hg0
        clear hg1
        clear hg2
        subst hj0
        subst hj1
        subst hj2
        subst hj3
        subst hg3
        exact W.zret hx hb hr (bI_n _) (fun t ht hW => ⟨⟨_, (), rfl, rfl, by rw [ht]; exact hP, hD⟩, hS.F ht⟩) hS.2.2 dX2_accept_90
      · replace h := ite_f c4_2 h
        by_cases c4_3 : r_state = (3 : Int32)
        · replace h := ite_t c4_3 h
          refine lv_tableIn (off := 87) (tgt := 91) hx hb dX2_accept_4 (by rw [c4_3]; decide) (by rw [c4_3]; decide) (by rw [c4_3]; rfl) (by decide) ?_
          refine lv_aload_n hx hb dX2_accept_91 rfl (lv_at hl 0 rfl) ?_
          refine lv_iload_n hx hb dX2_accept_92 rfl (lv_at hl 1 rfl) ?_
          obtain ⟨z93, w93_0, w93_1, e_93, h⟩ := bd3_s h
          refine cm_i (ws := (wX2 g aR r_action r_sets r_state r_condition ++ (wX4 g aT t_conditions t_cases t_rules t_defaultAction t_sizes t_strides t_costs t_weights t_sets t_actions t_rulesWith))) (isC := [0, 1]) (va_runV (As := [.int x1]) (rest := []) ⟨hx, hb, hml, hown, hts⟩ (c_X2_acceptAction l H.size D g aR r_action r_sets r_state r_condition x1 z93 w93_0 w93_1 e_93) (cwV 1 hts gX2_accept_X2_acceptAction rfl rfl rfl ⟨rfl, pd_X2_acceptAction⟩ ⟨Nat.le_of_ble_eq_true rfl, Nat.le_of_ble_eq_true rfl⟩) (pw_v hK (hP.sub (ws' := (wX2 g aR r_action r_sets r_state r_condition)) [0, 1] rfl) (hD.sub (ws' := (wX2 g aR r_action r_sets r_state r_condition)) [0, 1] (by decide) rfl) (q0 := 0) (ci := 2) rfl rfl rfl) rfl rfl hl.1 rfl (lv_room (Nat.le_of_ble_eq_true rfl)) dX2_accept_93 ⟨Nat.zero_le _, Nat.zero_le _⟩) hP hD hS hA rfl [2, 3, 4, 5, 6, 7, 8, 9] (wr := (wX4 g aT t_conditions t_cases t_rules t_defaultAction t_sizes t_strides t_costs t_weights t_sets t_actions t_rulesWith)) rfl (by decide) (by decide) [8, 9, 0, 1, 2, 3, 4, 5, 6, 7] (w2 := (wX2 g aR w93_0 r_sets w93_1 r_condition ++ (wX4 g aT t_conditions t_cases t_rules t_defaultAction t_sizes t_strides t_costs t_weights t_sets t_actions t_rulesWith))) rfl (by decide) (fun H locs hP hD hS => ?_)
          replace h := Option.some.inj h
          have hj0 := (Prod.mk.inj h).1
          have hg0 := (Prod.mk.inj h).2
          have hj1 := (Prod.mk.inj hg0).1
          have hg1 := (Prod.mk.inj hg0).2
          have hj2 := (Prod.mk.inj hg1).1
          have hg2 := (Prod.mk.inj hg1).2
          have hj3 := (Prod.mk.inj hg2).1
          have hg3 := (Prod.mk.inj hg2).2
          clear hg0
          clear hg1
          clear hg2
          subst hj0
          subst hj1
          subst hj2
          subst hj3
          subst hg3
          exact W.zret hx hb hr (bI_n _) (fun t ht hW => ⟨⟨_, (), rfl, rfl, by rw [ht]; exact hP, hD⟩, hS.F ht⟩) hS.2.2 dX2_accept_96
        · replace h := ite_f c4_3 h
          have n4_0 := lv_neT (a := 0) c4_0 (by decide)
          have n4_1 := lv_neT (a := 1) c4_1 (by decide)
          have n4_2 := lv_neT (a := 2) c4_2 (by decide)
          have n4_3 := lv_neT (a := 3) c4_3 (by decide)
          refine lv_tableOut (tgt := 97) hx hb dX2_accept_4 (by omega) (by decide) ?_
          refine lv_iconst (v := 0) hx hb dX2_accept_97 (by decide) ?_
          replace h := Option.some.inj h
          have hj0 := (Prod.mk.inj h).1
          have hg0 := (Prod.mk.inj h).2
          have hj1 := (Prod.mk.inj hg0).1
          have hg1 := (Prod.mk.inj hg0).2
          have hj2 := (Prod.mk.inj hg1).1
          have hg2 := (Prod.mk.inj hg1).2
          have hj3 := (Prod.mk.inj hg2).1
          have hg3 := (Prod.mk.inj hg2).2
          clear hg0
          clear hg1
          clear hg2
          subst hj0
          subst hj1
          subst hj2
          subst hj3
          subst hg3
          exact W.zret hx hb hr rfl (fun t ht hW => ⟨⟨_, (), rfl, rfl, by rw [ht]; exact hP, hD⟩, hS.F ht⟩) hS.2.2 dX2_accept_98
theorem pd_X2_read : yX2_read.cls ≠ "java/lang/invoke/MethodHandle" ∧ yX2_read.cls ≠ "java/lang/invoke/VarHandle" ∧ (parseMethodDescriptor yX2_read.desc).map (fun d => d.parameters.length) = some 2 := by decide +kernel
def f_X2_read_s25 (i_length : Int32) (i_bytes : Nat → Int32) (t_conditions : Int32) (t_sizes : Nat → Int32) (v3_25 : Int32) (r_action_25 : Int32) (r_sets_25 : Nat → Int32) (r_state_25 : Int32) (r_condition_25 : Int32) : Option ((Int32 × Int32 × (Nat → Int32) × Int32 × Int32) ⊕ (Int32 × Int32 × (Nat → Int32) × Int32 × Int32)) :=
  (if i_length ≤ v3_25 then (if r_state_25 = (4 : Int32) then (some (.inr ((-1 : Int32), r_action_25, r_sets_25, r_state_25, r_condition_25))) else (some (.inr (i_length, r_action_25, r_sets_25, r_state_25, r_condition_25)))) else (rd 40 i_bytes v3_25 fun z39 => (bd5 (f_X2_accept r_action_25 r_sets_25 r_state_25 r_condition_25 t_conditions t_sizes z39) fun z41 w41_0 w41_1 w41_2 w41_3 => (if z41 = true then (some (.inl ((v3_25 + 1), w41_0, w41_1, w41_2, w41_3))) else (some (.inr (v3_25, w41_0, w41_1, w41_2, w41_3)))))))
def f_X2_read (r_action : Int32) (r_sets : Nat → Int32) (r_state : Int32) (r_condition : Int32) (i_length : Int32) (i_bytes : Nat → Int32) (t_conditions : Int32) (t_sizes : Nat → Int32) : Option (Int32 × Int32 × (Nat → Int32) × Int32 × Int32) :=
  (wl (fun q => f_X2_read_s25 i_length i_bytes t_conditions t_sizes q.1 q.2.1 q.2.2.1 q.2.2.2.1 q.2.2.2.2) 5000 ((0 : Int32), (0 : Int32), (fil 4 (0 : Int32) r_sets), (0 : Int32), (0 : Int32)))
set_option maxHeartbeats 4000000 in
set_option maxRecDepth 100000 in
theorem c_X2_read (l : Launch) (sz : Nat) (D : va_G) (g : Nat → ClassId) (aR aI aT : Nat → Nat) (r_action : Int32) (r_sets : Nat → Int32) (r_state : Int32) (r_condition : Int32) (i_length : Int32) (i_bytes : Nat → Int32) (t_conditions : Int32) (t_cases : Int32) (t_rules : Int32) (t_defaultAction : Int32) (t_sizes : Nat → Int32) (t_strides : Nat → Int32) (t_costs : Nat → Int32) (t_weights : Nat → Int32) (t_sets : Nat → Int32) (t_actions : Nat → Int32) (t_rulesWith : Nat → Int32)  (r : Int32) (r_action_n : Int32) (r_sets_n : Nat → Int32) (r_state_n : Int32) (r_condition_n : Int32) (hf : f_X2_read r_action r_sets r_state r_condition i_length i_bytes t_conditions t_sizes = some (r, r_action_n, r_sets_n, r_state_n, r_condition_n)) : CM l yX2_read wsX2_read 4 88 sz D g [.ref (aR 0), .ref (aI 0), .ref (aT 0)] (wX2 g aR r_action r_sets r_state r_condition ++ (wX0 g aI i_length i_bytes ++ (wX4 g aT t_conditions t_cases t_rules t_defaultAction t_sizes t_strides t_costs t_weights t_sets t_actions t_rulesWith))) (QMi D (wX2 g aR r_action r_sets r_state r_condition ++ (wX0 g aI i_length i_bytes ++ (wX4 g aT t_conditions t_cases t_rules t_defaultAction t_sizes t_strides t_costs t_weights t_sets t_actions t_rulesWith))) sz (wX2 g aR r_action_n r_sets_n r_state_n r_condition_n ++ (wX0 g aI i_length i_bytes ++ (wX4 g aT t_conditions t_cases t_rules t_defaultAction t_sizes t_strides t_costs t_weights t_sets t_actions t_rulesWith))) r) := by
  refine Met.ofW (cc := cX2_read) (maxL := 4) (ret := (some .int)) (by decide) rfl ?_
  intro p e s m args below meth c s₁ B hml hv
  obtain ⟨rfl, hsz, hP, hK, hD0⟩ := hv
  have hx := B.exec
  have hb := B.bytes
  have hr := B.returns
  have hts := atoms_spec (ws := wsX2_read) B.pre
  have hown : s.vm.findClass RX2 = some m.cls := findClass_of_methodNamed B.named
  have hlocks := B.notSynchronized
  have hh0 := (show ∀ w ∈ wsX20, w ∈ wsX2_read from by decide +kernel)
  have hh1 := hts (.fieldLink RX2 9 "DecisionTableCompiler$RuleText" "sets" "[I") (by decide +kernel)
  have hh2 := hts (.fieldLink RX2 21 "DecisionTableCompiler$RuleText" "action" "I") (by decide +kernel)
  have hh3 := hts (.fieldLink RX2 25 "DecisionTableCompiler$RuleText" "condition" "I") (by decide +kernel)
  have hh4 := hts (.fieldLink RX2 28 "DecisionTableCompiler$RuleText" "state" "I") (by decide +kernel)
  have hh5 := (show ∀ w ∈ wsX00, w ∈ wsX2_read from by decide +kernel)
  have hh6 := hts (.fieldLink RX2 31 "DecisionTableCompiler$InputBuffer" "length" "I") (by decide +kernel)
  have hh7 := hts (.fieldLink RX2 36 "DecisionTableCompiler$InputBuffer" "bytes" "[B") (by decide +kernel)
  subst hsz
  have hD := hD0.self (sz := s.heap.size)
  have hA : ∀ q : Nat, s.heap.size ≤ q → va_A (wX2 g aR r_action r_sets r_state r_condition ++ (wX0 g aI i_length i_bytes ++ (wX4 g aT t_conditions t_cases t_rules t_defaultAction t_sizes t_strides t_costs t_weights t_sets t_actions t_rulesWith))) s.heap.size q := fun q h => Or.inr h
  have hS : va_S (va_A (wX2 g aR r_action r_sets r_state r_condition ++ (wX0 g aI i_length i_bytes ++ (wX4 g aT t_conditions t_cases t_rules t_defaultAction t_sizes t_strides t_costs t_weights t_sets t_actions t_rulesWith))) s.heap.size) s.heap s.heap [] := va_S.rf
  have hl := lv_entry ([.ref (aR 0), .ref (aI 0), .ref (aT 0)]) (n := 4) (Nat.le_of_ble_eq_true rfl)
  rw [lg_entry_eq]
  generalize (lg_sl ([.ref (aR 0), .ref (aI 0), .ref (aT 0)]) ++ List.replicate (4 - (lg_sl ([.ref (aR 0), .ref (aI 0), .ref (aT 0)])).length) Slot.unset).toArray = ls at hl ⊢
  replace hl : lv_has ls 4 [(0, .ref (aR 0)), (1, .ref (aI 0)), (2, .ref (aT 0))] := hl
  have h := hf
  unfold f_X2_read at h
  obtain ⟨H, hH⟩ : ∃ H, H = s.heap := ⟨_, rfl⟩
  obtain ⟨locs, hlc⟩ : ∃ q : List Loc, q = [] := ⟨_, rfl⟩
  have hS : va_S (va_A (wX2 g aR r_action r_sets r_state r_condition ++ (wX0 g aI i_length i_bytes ++ (wX4 g aT t_conditions t_cases t_rules t_defaultAction t_sizes t_strides t_costs t_weights t_sets t_actions t_rulesWith))) s.heap.size) s.heap H locs := by rw [hH, hlc]; exact hS
  replace hP : va_P D vwCl (wX2 g aR r_action r_sets r_state r_condition ++ (wX0 g aI i_length i_bytes ++ (wX4 g aT t_conditions t_cases t_rules t_defaultAction t_sizes t_strides t_costs t_weights t_sets t_actions t_rulesWith))) H := by rw [hH]; exact hP
  suffices hW : W p l e (headSpec wsX2_read ({ frames := 4, cells := 0, slots := 0, locals := 88 })).room s m ([.ref (aR 0), .ref (aI 0), .ref (aT 0)] : List Value).toArray below meth c H locs 0 0 (MQ below (QMi D (wX2 g aR r_action r_sets r_state r_condition ++ (wX0 g aI i_length i_bytes ++ (wX4 g aT t_conditions t_cases t_rules t_defaultAction t_sizes t_strides t_costs t_weights t_sets t_actions t_rulesWith))) s.heap.size (wX2 g aR r_action_n r_sets_n r_state_n r_condition_n ++ (wX0 g aI i_length i_bytes ++ (wX4 g aT t_conditions t_cases t_rules t_defaultAction t_sizes t_strides t_costs t_weights t_sets t_actions t_rulesWith))) r) ([.ref (aR 0), .ref (aI 0), .ref (aT 0)] : List Value).toArray s 0 0 (va_A (wX2 g aR r_action r_sets r_state r_condition ++ (wX0 g aI i_length i_bytes ++ (wX4 g aT t_conditions t_cases t_rules t_defaultAction t_sizes t_strides t_costs t_weights t_sets t_actions t_rulesWith))) s.heap.size)) (F0 m 0 ls []) by rw [hH, hlc] at hW; exact hW
  clear hH hlc
  refine lv_aload_n hx hb dX2_read_0 rfl (lv_at hl 0 rfl) ?_
  refine va_get (D := D) (ci := 2) (v := .ref (aR 1)) (C := RX2) (T := TX2) (N := 4) hx hb hts hh0 hown hK.1 hP 0 rfl rfl 1 (by decide) hh1 (fun _ h9 => h9) rfl dX2_read_1 ?_
  refine lv_iconst (v := 0) hx hb dX2_read_4 (by decide) ?_
  refine cm_v (ws := (wX2 g aR r_action r_sets r_state r_condition ++ (wX0 g aI i_length i_bytes ++ (wX4 g aT t_conditions t_cases t_rules t_defaultAction t_sizes t_strides t_costs t_weights t_sets t_actions t_rulesWith)))) (isC := [1]) (va_runS (As := [.ref (aR 1), .int (0 : Int32)]) (rest := []) ⟨hx, hb, hml, hown, hts⟩ (c_J7_fill_53178 l H.size D g (aR 1) 4 r_sets (0 : Int32) (Nat.le_of_ble_eq_true rfl)) (va_cwS 2 hts gX2_read_J7_fill_53178 rfl rfl rfl pd_J7_fill_53178 ⟨Nat.le_of_ble_eq_true rfl, Nat.le_of_ble_eq_true rfl⟩) (pw_s hK (hP.sub (ws' := [(aR 1, .inl (g 0, 4, .inl r_sets))]) [1] rfl) (hD.sub (ws' := [(aR 1, .inl (g 0, 4, .inl r_sets))]) [1] (by decide) rfl)) rfl rfl hl.1 rfl (lv_room (Nat.le_of_ble_eq_true rfl)) dX2_read_5 ⟨Nat.zero_le _, Nat.zero_le _⟩) hP hD hS hA rfl [0, 2, 3, 4, 5, 6, 7, 8, 9, 10, 11] (wr := ([0, 2, 3, 4, 5, 6, 7, 8, 9, 10, 11].filterMap (fun i => (wX2 g aR r_action r_sets r_state r_condition ++ (wX0 g aI i_length i_bytes ++ (wX4 g aT t_conditions t_cases t_rules t_defaultAction t_sizes t_strides t_costs t_weights t_sets t_actions t_rulesWith)))[i]?))) rfl (by decide) (by decide) [0, 11, 1, 2, 3, 4, 5, 6, 7, 8, 9, 10] (w2 := (wX2 g aR r_action (fil 4 (0 : Int32) r_sets) r_state r_condition ++ (wX0 g aI i_length i_bytes ++ (wX4 g aT t_conditions t_cases t_rules t_defaultAction t_sizes t_strides t_costs t_weights t_sets t_actions t_rulesWith)))) rfl (by decide) (fun H locs hP hD hS => ?_)
  refine lv_aload_n hx hb dX2_read_8 rfl (lv_at hl 0 rfl) ?_
  refine lv_iconst (v := 0) hx hb dX2_read_9 (by decide) ?_
  refine va_put (D := D) (ci := 2) (v := .int (0 : Int32)) (ty := .int) (C := RX2) (T := TX2) (N := 4) hx hb hts hh0 tyX2 tyX2_ok nmX2 hown hK.1 hP hD hS 0 rfl rfl 0 (by decide) hh2 (fun _ h9 => h9) rfl (by decide +kernel) rfl rfl (Nat.le_of_ble_eq_true rfl) dX2_read_10 (fun H locs hP hD hS => ?_)
  replace hP : va_P D vwCl (wX2 g aR (0 : Int32) (fil 4 (0 : Int32) r_sets) r_state r_condition ++ (wX0 g aI i_length i_bytes ++ (wX4 g aT t_conditions t_cases t_rules t_defaultAction t_sizes t_strides t_costs t_weights t_sets t_actions t_rulesWith))) H := hP
  replace hD : va_D (va_A (wX2 g aR r_action r_sets r_state r_condition ++ (wX0 g aI i_length i_bytes ++ (wX4 g aT t_conditions t_cases t_rules t_defaultAction t_sizes t_strides t_costs t_weights t_sets t_actions t_rulesWith))) s.heap.size) (wX2 g aR (0 : Int32) (fil 4 (0 : Int32) r_sets) r_state r_condition ++ (wX0 g aI i_length i_bytes ++ (wX4 g aT t_conditions t_cases t_rules t_defaultAction t_sizes t_strides t_costs t_weights t_sets t_actions t_rulesWith))) := hD
  refine lv_aload_n hx hb dX2_read_13 rfl (lv_at hl 0 rfl) ?_
  refine lv_iconst (v := 0) hx hb dX2_read_14 (by decide) ?_
  refine va_put (D := D) (ci := 2) (v := .int (0 : Int32)) (ty := .int) (C := RX2) (T := TX2) (N := 4) hx hb hts hh0 tyX2 tyX2_ok nmX2 hown hK.1 hP hD hS 0 rfl rfl 3 (by decide) hh3 (fun _ h9 => h9) rfl (by decide +kernel) rfl rfl (Nat.le_of_ble_eq_true rfl) dX2_read_15 (fun H locs hP hD hS => ?_)
  replace hP : va_P D vwCl (wX2 g aR (0 : Int32) (fil 4 (0 : Int32) r_sets) r_state (0 : Int32) ++ (wX0 g aI i_length i_bytes ++ (wX4 g aT t_conditions t_cases t_rules t_defaultAction t_sizes t_strides t_costs t_weights t_sets t_actions t_rulesWith))) H := hP
  replace hD : va_D (va_A (wX2 g aR r_action r_sets r_state r_condition ++ (wX0 g aI i_length i_bytes ++ (wX4 g aT t_conditions t_cases t_rules t_defaultAction t_sizes t_strides t_costs t_weights t_sets t_actions t_rulesWith))) s.heap.size) (wX2 g aR (0 : Int32) (fil 4 (0 : Int32) r_sets) r_state (0 : Int32) ++ (wX0 g aI i_length i_bytes ++ (wX4 g aT t_conditions t_cases t_rules t_defaultAction t_sizes t_strides t_costs t_weights t_sets t_actions t_rulesWith))) := hD
  refine lv_aload_n hx hb dX2_read_18 rfl (lv_at hl 0 rfl) ?_
  refine lv_iconst (v := 0) hx hb dX2_read_19 (by decide) ?_
  refine va_put (D := D) (ci := 2) (v := .int (0 : Int32)) (ty := .int) (C := RX2) (T := TX2) (N := 4) hx hb hts hh0 tyX2 tyX2_ok nmX2 hown hK.1 hP hD hS 0 rfl rfl 2 (by decide) hh4 (fun _ h9 => h9) rfl (by decide +kernel) rfl rfl (Nat.le_of_ble_eq_true rfl) dX2_read_20 (fun H locs hP hD hS => ?_)
  replace hP : va_P D vwCl (wX2 g aR (0 : Int32) (fil 4 (0 : Int32) r_sets) (0 : Int32) (0 : Int32) ++ (wX0 g aI i_length i_bytes ++ (wX4 g aT t_conditions t_cases t_rules t_defaultAction t_sizes t_strides t_costs t_weights t_sets t_actions t_rulesWith))) H := hP
  replace hD : va_D (va_A (wX2 g aR r_action r_sets r_state r_condition ++ (wX0 g aI i_length i_bytes ++ (wX4 g aT t_conditions t_cases t_rules t_defaultAction t_sizes t_strides t_costs t_weights t_sets t_actions t_rulesWith))) s.heap.size) (wX2 g aR (0 : Int32) (fil 4 (0 : Int32) r_sets) (0 : Int32) (0 : Int32) ++ (wX0 g aI i_length i_bytes ++ (wX4 g aT t_conditions t_cases t_rules t_defaultAction t_sizes t_strides t_costs t_weights t_sets t_actions t_rulesWith))) := hD
  refine lv_iconst (v := 0) hx hb dX2_read_23 (by decide) ?_
  refine lv_istore_n (lv' := [(3, .int (0 : Int32)), (0, .ref (aR 0)), (1, .ref (aI 0)), (2, .ref (aT 0))]) hx hb dX2_read_24 rfl hl (by decide) rfl (fun ls hl => ?_)
  have lp25 : ∀ (n : Nat) (v3_25 : Int32) (r_action_25 : Int32) (r_sets_25 : Nat → Int32) (r_state_25 : Int32) (r_condition_25 : Int32) (H : Heap) (locs : List Loc), va_P D vwCl (wX2 g aR r_action_25 r_sets_25 r_state_25 r_condition_25 ++ (wX0 g aI i_length i_bytes ++ (wX4 g aT t_conditions t_cases t_rules t_defaultAction t_sizes t_strides t_costs t_weights t_sets t_actions t_rulesWith))) H → va_D (va_A (wX2 g aR r_action r_sets r_state r_condition ++ (wX0 g aI i_length i_bytes ++ (wX4 g aT t_conditions t_cases t_rules t_defaultAction t_sizes t_strides t_costs t_weights t_sets t_actions t_rulesWith))) s.heap.size) (wX2 g aR r_action_25 r_sets_25 r_state_25 r_condition_25 ++ (wX0 g aI i_length i_bytes ++ (wX4 g aT t_conditions t_cases t_rules t_defaultAction t_sizes t_strides t_costs t_weights t_sets t_actions t_rulesWith))) → va_S (va_A (wX2 g aR r_action r_sets r_state r_condition ++ (wX0 g aI i_length i_bytes ++ (wX4 g aT t_conditions t_cases t_rules t_defaultAction t_sizes t_strides t_costs t_weights t_sets t_actions t_rulesWith))) s.heap.size) s.heap H locs → wl (fun q => f_X2_read_s25 i_length i_bytes t_conditions t_sizes q.1 q.2.1 q.2.2.1 q.2.2.2.1 q.2.2.2.2) n (v3_25, r_action_25, r_sets_25, r_state_25, r_condition_25) = some (r, r_action_n, r_sets_n, r_state_n, r_condition_n) → ∀ ls : Array Slot, lv_has ls 4 [(3, .int v3_25), (0, .ref (aR 0)), (1, .ref (aI 0)), (2, .ref (aT 0))] → W p l e (headSpec wsX2_read ({ frames := 4, cells := 0, slots := 0, locals := 88 })).room s m ([.ref (aR 0), .ref (aI 0), .ref (aT 0)] : List Value).toArray below meth c H locs 0 0 (MQ below (QMi D (wX2 g aR r_action r_sets r_state r_condition ++ (wX0 g aI i_length i_bytes ++ (wX4 g aT t_conditions t_cases t_rules t_defaultAction t_sizes t_strides t_costs t_weights t_sets t_actions t_rulesWith))) s.heap.size (wX2 g aR r_action_n r_sets_n r_state_n r_condition_n ++ (wX0 g aI i_length i_bytes ++ (wX4 g aT t_conditions t_cases t_rules t_defaultAction t_sizes t_strides t_costs t_weights t_sets t_actions t_rulesWith))) r) ([.ref (aR 0), .ref (aI 0), .ref (aT 0)] : List Value).toArray s 0 0 (va_A (wX2 g aR r_action r_sets r_state r_condition ++ (wX0 g aI i_length i_bytes ++ (wX4 g aT t_conditions t_cases t_rules t_defaultAction t_sizes t_strides t_costs t_weights t_sets t_actions t_rulesWith))) s.heap.size)) (F0 m 25 ls []) := by
    intro n
    induction n with
    | zero =>
      intro v3_25 r_action_25 r_sets_25 r_state_25 r_condition_25 H locs hP hD hS h
      exact wl_0 h
    | succ n ih1 =>
      intro v3_25 r_action_25 r_sets_25 r_state_25 r_condition_25 H locs hP hD hS h ls hl
      obtain ⟨o1, h, k1⟩ := wl_s h
      replace h : f_X2_read_s25 i_length i_bytes t_conditions t_sizes v3_25 r_action_25 r_sets_25 r_state_25 r_condition_25 = some o1 := h
      unfold f_X2_read_s25 at h
      refine lv_iload_n hx hb dX2_read_25 rfl (lv_at hl 0 rfl) ?_
      refine lv_aload_n hx hb dX2_read_26 rfl (lv_at hl 2 rfl) ?_
      refine va_get (D := D) (ci := 0) (v := .int i_length) (C := RX0) (T := TX0) (N := 2) hx hb hts hh5 hown hK.1 hP 2 rfl rfl 0 (by decide) hh6 (fun _ h9 => h9) rfl dX2_read_27 ?_
      refine lv_icmp_ge (tgt := 55) hx hb dX2_read_30 (by decide) (fun c30 => ?_) (fun c30 => ?_)
      · replace h := ite_t c30 h
        refine lv_aload_n hx hb dX2_read_55 rfl (lv_at hl 1 rfl) ?_
        refine va_get (D := D) (ci := 2) (v := .int r_state_25) (C := RX2) (T := TX2) (N := 4) hx hb hts hh0 hown hK.1 hP 0 rfl rfl 2 (by decide) hh4 (fun _ h9 => h9) rfl dX2_read_56 ?_
        refine lv_iconst (v := 4) hx hb dX2_read_59 (by decide) ?_
        refine lv_icmp_ne (tgt := 67) hx hb dX2_read_60 (by decide) (fun c60 => ?_) (fun c60 => ?_)
        · replace h := ite_f c60 h
          refine lv_aload_n hx hb dX2_read_67 rfl (lv_at hl 2 rfl) ?_
          refine va_get (D := D) (ci := 0) (v := .int i_length) (C := RX0) (T := TX0) (N := 2) hx hb hts hh5 hown hK.1 hP 2 rfl rfl 0 (by decide) hh6 (fun _ h9 => h9) rfl dX2_read_68 ?_
          replace h := Option.some.inj h
          subst h
          replace h := wk_r k1
          have hj0 := (Prod.mk.inj h).1
          have hg0 := (Prod.mk.inj h).2
          have hj1 := (Prod.mk.inj hg0).1
          have hg1 := (Prod.mk.inj hg0).2
          have hj2 := (Prod.mk.inj hg1).1
          have hg2 := (Prod.mk.inj hg1).2
          have hj3 := (Prod.mk.inj hg2).1
          have hg3 := (Prod.mk.inj hg2).2
          clear hg0
          clear hg1
          clear hg2
          subst hj0
          subst hj1
          subst hj2
          subst hj3
          subst hg3
          exact W.iret hx hb hr (fun t ht hW => ⟨⟨_, (), rfl, rfl, by rw [ht]; exact hP, hD⟩, hS.F ht⟩) hS.2.2 dX2_read_71
        · replace h := ite_t c60 h
          refine lv_iconst (v := -1) hx hb dX2_read_63 (by decide) ?_
          refine lv_goto (tgt := 71) hx hb dX2_read_64 (by decide) ?_
          replace h := Option.some.inj h
          subst h
          replace h := wk_r k1
          have hj0 := (Prod.mk.inj h).1
          have hg0 := (Prod.mk.inj h).2
          have hj1 := (Prod.mk.inj hg0).1
          have hg1 := (Prod.mk.inj hg0).2
          have hj2 := (Prod.mk.inj hg1).1
          have hg2 := (Prod.mk.inj hg1).2
          have hj3 := (Prod.mk.inj hg2).1
          have hg3 := (Prod.mk.inj hg2).2
          clear hg0
          clear hg1
          clear hg2
          subst hj0
          subst hj1
          subst hj2
          subst hj3
          subst hg3
          exact W.iret hx hb hr (fun t ht hW => ⟨⟨_, (), rfl, rfl, by rw [ht]; exact hP, hD⟩, hS.F ht⟩) hS.2.2 dX2_read_71
      · replace h := ite_f c30 h
        refine lv_aload_n hx hb dX2_read_33 rfl (lv_at hl 1 rfl) ?_
        refine lv_aload_n hx hb dX2_read_34 rfl (lv_at hl 2 rfl) ?_
        refine va_get (D := D) (ci := 0) (v := .ref (aI 1)) (C := RX0) (T := TX0) (N := 2) hx hb hts hh5 hown hK.1 hP 2 rfl rfl 1 (by decide) hh7 (fun _ h9 => h9) rfl dX2_read_35 ?_
        refine lv_iload_n hx hb dX2_read_38 rfl (lv_at hl 0 rfl) ?_
        have iz39 := rd_in h
        refine va_bald hx hb hK.1 hP 3 2 rfl rfl (rd_in h) dX2_read_39 (lv_topi (fun z39 ez39 => ?_))
        replace h := rd_k h ez39
        refine lv_aload_n hx hb dX2_read_40 rfl (lv_at hl 3 rfl) ?_
        obtain ⟨z41, w41_0, w41_1, w41_2, w41_3, e_41, h⟩ := bd5_s h
        refine cm_i (ws := (wX2 g aR r_action_25 r_sets_25 r_state_25 r_condition_25 ++ (wX0 g aI i_length i_bytes ++ (wX4 g aT t_conditions t_cases t_rules t_defaultAction t_sizes t_strides t_costs t_weights t_sets t_actions t_rulesWith)))) (isC := [0, 1, 4, 5, 6, 7, 8, 9, 10, 11]) (va_runV (As := [.int z39, .ref (aT 0)]) (rest := []) ⟨hx, hb, hml, hown, hts⟩ (c_X2_accept l H.size D g aR aT r_action_25 r_sets_25 r_state_25 r_condition_25 t_conditions t_cases t_rules t_defaultAction t_sizes t_strides t_costs t_weights t_sets t_actions t_rulesWith z39 z41 w41_0 w41_1 w41_2 w41_3 e_41) (cwV 2 hts gX2_read_X2_accept rfl rfl rfl ⟨rfl, pd_X2_accept⟩ ⟨Nat.le_of_ble_eq_true rfl, Nat.le_of_ble_eq_true rfl⟩) (pw_v hK (hP.sub (ws' := (wX2 g aR r_action_25 r_sets_25 r_state_25 r_condition_25 ++ (wX4 g aT t_conditions t_cases t_rules t_defaultAction t_sizes t_strides t_costs t_weights t_sets t_actions t_rulesWith))) [0, 1, 4, 5, 6, 7, 8, 9, 10, 11] rfl) (hD.sub (ws' := (wX2 g aR r_action_25 r_sets_25 r_state_25 r_condition_25 ++ (wX4 g aT t_conditions t_cases t_rules t_defaultAction t_sizes t_strides t_costs t_weights t_sets t_actions t_rulesWith))) [0, 1, 4, 5, 6, 7, 8, 9, 10, 11] (by decide) rfl) (q0 := 0) (ci := 2) rfl rfl rfl) rfl rfl hl.1 rfl (lv_room (Nat.le_of_ble_eq_true rfl)) dX2_read_41 ⟨Nat.zero_le _, Nat.zero_le _⟩) hP hD hS hA rfl [2, 3] (wr := (wX0 g aI i_length i_bytes)) rfl (by decide) (by decide) [2, 3, 0, 1, 4, 5, 6, 7, 8, 9, 10, 11] (w2 := (wX2 g aR w41_0 w41_1 w41_2 w41_3 ++ (wX0 g aI i_length i_bytes ++ (wX4 g aT t_conditions t_cases t_rules t_defaultAction t_sizes t_strides t_costs t_weights t_sets t_actions t_rulesWith)))) rfl (by decide) (fun H locs hP hD hS => ?_)
        refine lb_ne (tgt := 49) hx hb dX2_read_44 (by decide) (fun c44 => ?_) (fun c44 => ?_)
        · replace h := ite_t c44 h
          refine lv_iinc (v := (v3_25 + 1)) (lv' := [(3, .int (v3_25 + 1)), (0, .ref (aR 0)), (1, .ref (aI 0)), (2, .ref (aT 0))]) hx hb dX2_read_49 hl (k := 0) rfl rfl (by decide) rfl (fun ls hl => ?_)
          refine lv_goto (tgt := 25) hx hb dX2_read_52 (by decide) ?_
          replace h := Option.some.inj h
          subst h
          exact ih1 (v3_25 + 1) w41_0 w41_1 w41_2 w41_3 H locs hP hD hS (wk_l k1) ls (lv_sub hl [0, 1, 2, 3] rfl)
        · replace h := ite_f c44 h
          refine lv_iload_n hx hb dX2_read_47 rfl (lv_at hl 0 rfl) ?_
          replace h := Option.some.inj h
          subst h
          replace h := wk_r k1
          have hj0 := (Prod.mk.inj h).1
          have hg0 := (Prod.mk.inj h).2
          have hj1 := (Prod.mk.inj hg0).1
          have hg1 := (Prod.mk.inj hg0).2
          have hj2 := (Prod.mk.inj hg1).1
          have hg2 := (Prod.mk.inj hg1).2
          have hj3 := (Prod.mk.inj hg2).1
          have hg3 := (Prod.mk.inj hg2).2
          clear hg0
          clear hg1
          clear hg2
          subst hj0
          subst hj1
          subst hj2
          subst hj3
          subst hg3
          exact W.iret hx hb hr (fun t ht hW => ⟨⟨_, (), rfl, rfl, by rw [ht]; exact hP, hD⟩, hS.F ht⟩) hS.2.2 dX2_read_48
  exact lp25 5000 (0 : Int32) (0 : Int32) (fil 4 (0 : Int32) r_sets) (0 : Int32) (0 : Int32) H locs hP hD hS h ls (lv_sub hl [0, 1, 2, 3] rfl)
theorem pd_X3_fillWith : yX3_fillWith.cls ≠ "java/lang/invoke/MethodHandle" ∧ yX3_fillWith.cls ≠ "java/lang/invoke/VarHandle" ∧ (parseMethodDescriptor yX3_fillWith.desc).map (fun d => d.parameters.length) = some 2 := by decide +kernel
def f_X3_fillWith (s_used : Bool) (s_type : Int32) (s_size : Int32) (s_elements : Nat → Int64) (x1 : Int32) (x2 : Int32) : Option (Bool × Int32 × Int32 × (Nat → Int64)) :=
  (some (true, x1, x2, (fil 700 (0 : Int64) s_elements)))
set_option maxHeartbeats 4000000 in
set_option maxRecDepth 100000 in
theorem c_X3_fillWith (l : Launch) (sz : Nat) (D : va_G) (g : Nat → ClassId) (aS : Nat → Nat) (s_used : Bool) (s_type : Int32) (s_size : Int32) (s_elements : Nat → Int64) (x1 : Int32) (x2 : Int32) (s_used_n : Bool) (s_type_n : Int32) (s_size_n : Int32) (s_elements_n : Nat → Int64) (hf : f_X3_fillWith s_used s_type s_size s_elements x1 x2 = some (s_used_n, s_type_n, s_size_n, s_elements_n)) : CM l yX3_fillWith wsX3_fillWith 1 24 sz D g [.ref (aS 0), .int x1, .int x2] (wX3 g aS s_used s_type s_size s_elements) (QMv D (wX3 g aS s_used s_type s_size s_elements) sz (wX3 g aS s_used_n s_type_n s_size_n s_elements_n)) := by
  refine Met.ofW (cc := cX3_fillWith) (maxL := 3) (ret := none) (by decide) rfl ?_
  intro p e s m args below meth c s₁ B hml hv
  obtain ⟨rfl, hsz, hP, hK, hD0⟩ := hv
  have hx := B.exec
  have hb := B.bytes
  have hr := B.returns
  have hts := atoms_spec (ws := wsX3_fillWith) B.pre
  have hown : s.vm.findClass RX3 = some m.cls := findClass_of_methodNamed B.named
  have hlocks := B.notSynchronized
  have hh0 := (show ∀ w ∈ wsX30, w ∈ wsX3_fillWith from by decide +kernel)
  have hh1 := hts (.fieldLink RX3 15 "DecisionTableCompiler$Slot" "used" "Z") (by decide +kernel)
  have hh2 := hts (.fieldLink RX3 19 "DecisionTableCompiler$Slot" "type" "I") (by decide +kernel)
  have hh3 := hts (.fieldLink RX3 23 "DecisionTableCompiler$Slot" "size" "I") (by decide +kernel)
  have hh4 := hts (.fieldLink RX3 9 "DecisionTableCompiler$Slot" "elements" "[J") (by decide +kernel)
  subst hsz
  have hD := hD0.self (sz := s.heap.size)
  have hA : ∀ q : Nat, s.heap.size ≤ q → va_A (wX3 g aS s_used s_type s_size s_elements) s.heap.size q := fun q h => Or.inr h
  have hS : va_S (va_A (wX3 g aS s_used s_type s_size s_elements) s.heap.size) s.heap s.heap [] := va_S.rf
  have hl := lv_entry ([.ref (aS 0), .int x1, .int x2]) (n := 3) (Nat.le_of_ble_eq_true rfl)
  rw [lg_entry_eq]
  generalize (lg_sl ([.ref (aS 0), .int x1, .int x2]) ++ List.replicate (3 - (lg_sl ([.ref (aS 0), .int x1, .int x2])).length) Slot.unset).toArray = ls at hl ⊢
  replace hl : lv_has ls 3 [(0, .ref (aS 0)), (1, .int x1), (2, .int x2)] := hl
  have h := hf
  unfold f_X3_fillWith at h
  obtain ⟨H, hH⟩ : ∃ H, H = s.heap := ⟨_, rfl⟩
  obtain ⟨locs, hlc⟩ : ∃ q : List Loc, q = [] := ⟨_, rfl⟩
  have hS : va_S (va_A (wX3 g aS s_used s_type s_size s_elements) s.heap.size) s.heap H locs := by rw [hH, hlc]; exact hS
  replace hP : va_P D vwCl (wX3 g aS s_used s_type s_size s_elements) H := by rw [hH]; exact hP
  suffices hW : W p l e (headSpec wsX3_fillWith ({ frames := 1, cells := 0, slots := 0, locals := 24 })).room s m ([.ref (aS 0), .int x1, .int x2] : List Value).toArray below meth c H locs 0 0 (MQ below (QMv D (wX3 g aS s_used s_type s_size s_elements) s.heap.size (wX3 g aS s_used_n s_type_n s_size_n s_elements_n)) ([.ref (aS 0), .int x1, .int x2] : List Value).toArray s 0 0 (va_A (wX3 g aS s_used s_type s_size s_elements) s.heap.size)) (F0 m 0 ls []) by rw [hH, hlc] at hW; exact hW
  clear hH hlc
  refine lv_aload_n hx hb dX3_fillWith_0 rfl (lv_at hl 0 rfl) ?_
  refine lv_iconst (v := 1) hx hb dX3_fillWith_1 (by decide) ?_
  refine va_put (D := D) (ci := 3) (v := .int (bI true)) (ty := .boolean) (C := RX3) (T := TX3) (N := 4) hx hb hts hh0 tyX3 tyX3_ok nmX3 hown hK.1 hP hD hS 0 rfl rfl 0 (by decide) hh1 (fun _ h9 => h9) rfl (by decide +kernel) (bI_n _) (bI_f _) (Nat.le_of_ble_eq_true rfl) dX3_fillWith_2 (fun H locs hP hD hS => ?_)
  replace hP : va_P D vwCl (wX3 g aS true s_type s_size s_elements) H := hP
  replace hD : va_D (va_A (wX3 g aS s_used s_type s_size s_elements) s.heap.size) (wX3 g aS true s_type s_size s_elements) := hD
  refine lv_aload_n hx hb dX3_fillWith_5 rfl (lv_at hl 0 rfl) ?_
  refine lv_iload_n hx hb dX3_fillWith_6 rfl (lv_at hl 1 rfl) ?_
  refine va_put (D := D) (ci := 3) (v := .int x1) (ty := .int) (C := RX3) (T := TX3) (N := 4) hx hb hts hh0 tyX3 tyX3_ok nmX3 hown hK.1 hP hD hS 0 rfl rfl 1 (by decide) hh2 (fun _ h9 => h9) rfl (by decide +kernel) rfl rfl (Nat.le_of_ble_eq_true rfl) dX3_fillWith_7 (fun H locs hP hD hS => ?_)
  replace hP : va_P D vwCl (wX3 g aS true x1 s_size s_elements) H := hP
  replace hD : va_D (va_A (wX3 g aS s_used s_type s_size s_elements) s.heap.size) (wX3 g aS true x1 s_size s_elements) := hD
  refine lv_aload_n hx hb dX3_fillWith_10 rfl (lv_at hl 0 rfl) ?_
  refine lv_iload_n hx hb dX3_fillWith_11 rfl (lv_at hl 2 rfl) ?_
  refine va_put (D := D) (ci := 3) (v := .int x2) (ty := .int) (C := RX3) (T := TX3) (N := 4) hx hb hts hh0 tyX3 tyX3_ok nmX3 hown hK.1 hP hD hS 0 rfl rfl 2 (by decide) hh3 (fun _ h9 => h9) rfl (by decide +kernel) rfl rfl (Nat.le_of_ble_eq_true rfl) dX3_fillWith_12 (fun H locs hP hD hS => ?_)
  replace hP : va_P D vwCl (wX3 g aS true x1 x2 s_elements) H := hP
  replace hD : va_D (va_A (wX3 g aS s_used s_type s_size s_elements) s.heap.size) (wX3 g aS true x1 x2 s_elements) := hD
  refine lv_aload_n hx hb dX3_fillWith_15 rfl (lv_at hl 0 rfl) ?_
  refine va_get (D := D) (ci := 3) (v := .ref (aS 1)) (C := RX3) (T := TX3) (N := 4) hx hb hts hh0 hown hK.1 hP 0 rfl rfl 3 (by decide) hh4 (fun _ h9 => h9) rfl dX3_fillWith_16 ?_
  refine lv_lconst (v := 0) hx hb dX3_fillWith_19 (by decide) ?_
  refine cm_v (ws := (wX3 g aS true x1 x2 s_elements)) (isC := [1]) (va_runS (As := [.ref (aS 1), .long (0 : Int64)]) (rest := []) ⟨hx, hb, hml, hown, hts⟩ (c_J7_fill_d0a16 l H.size D g (aS 1) 700 s_elements (0 : Int64) (Nat.le_of_ble_eq_true rfl)) (va_cwS 2 hts gX3_fillWith_J7_fill_d0a16 rfl rfl rfl pd_J7_fill_d0a16 ⟨Nat.le_of_ble_eq_true rfl, Nat.le_of_ble_eq_true rfl⟩) (pw_s hK (hP.sub (ws' := [(aS 1, .inl (g 1, 700, .inr (.inl s_elements)))]) [1] rfl) (hD.sub (ws' := [(aS 1, .inl (g 1, 700, .inr (.inl s_elements)))]) [1] (by decide) rfl)) rfl rfl hl.1 rfl (lv_room (Nat.le_of_ble_eq_true rfl)) dX3_fillWith_20 ⟨Nat.zero_le _, Nat.zero_le _⟩) hP hD hS hA rfl [0] (wr := ([0].filterMap (fun i => (wX3 g aS true x1 x2 s_elements)[i]?))) rfl (by decide) (by decide) [0, 1] (w2 := (wX3 g aS true x1 x2 (fil 700 (0 : Int64) s_elements))) rfl (by decide) (fun H locs hP hD hS => ?_)
  replace h := Option.some.inj h
  have hj0 := (Prod.mk.inj h).1
  have hg0 := (Prod.mk.inj h).2
  have hj1 := (Prod.mk.inj hg0).1
  have hg1 := (Prod.mk.inj hg0).2
  have hj2 := (Prod.mk.inj hg1).1
  have hg2 := (Prod.mk.inj hg1).2
  clear hg0
  clear hg1
  subst hj0
  subst hj1
  subst hj2
  subst hg2
  exact W.vret hx hb hr (fun t ht hW => ⟨⟨(), rfl, trivial, by rw [ht]; exact hP, hD⟩, hS.F ht⟩) hS.2.2 dX3_fillWith_23
theorem pd_X3_hasIndex : yX3_hasIndex.cls ≠ "java/lang/invoke/MethodHandle" ∧ yX3_hasIndex.cls ≠ "java/lang/invoke/VarHandle" ∧ (parseMethodDescriptor yX3_hasIndex.desc).map (fun d => d.parameters.length) = some 1 := by decide +kernel
def f_X3_hasIndex (s_size : Int32) (x1 : Int32) : Option (Bool) :=
  (if x1 < (0 : Int32) then (some false) else (if s_size ≤ x1 then (some false) else (some true)))
set_option maxHeartbeats 4000000 in
set_option maxRecDepth 100000 in
theorem c_X3_hasIndex (l : Launch) (D : va_G) (g : Nat → ClassId) (aS : Nat → Nat) (s_used : Bool) (s_type : Int32) (s_size : Int32) (s_elements : Nat → Int64) (x1 : Int32) (r : Bool) (hf : f_X3_hasIndex s_size x1 = some r) : CR l yX3_hasIndex wsX3_hasIndex 0 0 D g [.ref (aS 0), .int x1] (wX3 g aS s_used s_type s_size s_elements) (QRi (bI r)) := by
  refine Met.ofW (cc := cX3_hasIndex) (maxL := 2) (ret := (some .boolean)) (by decide) rfl ?_
  intro p e s m args below meth c s₁ B hml hv
  obtain ⟨rfl, hP, hK⟩ := hv
  have hx := B.exec
  have hb := B.bytes
  have hr := B.returns
  have hts := atoms_spec (ws := wsX3_hasIndex) B.pre
  have hown : s.vm.findClass RX3 = some m.cls := findClass_of_methodNamed B.named
  have hlocks := B.notSynchronized
  have hh0 := (show ∀ w ∈ wsX30, w ∈ wsX3_hasIndex from by decide +kernel)
  have hh1 := hts (.fieldLink RX3 23 "DecisionTableCompiler$Slot" "size" "I") (by decide +kernel)
  have hl := lv_entry ([.ref (aS 0), .int x1]) (n := 2) (Nat.le_of_ble_eq_true rfl)
  rw [lg_entry_eq]
  generalize (lg_sl ([.ref (aS 0), .int x1]) ++ List.replicate (2 - (lg_sl ([.ref (aS 0), .int x1])).length) Slot.unset).toArray = ls at hl ⊢
  replace hl : lv_has ls 2 [(0, .ref (aS 0)), (1, .int x1)] := hl
  have h := hf
  unfold f_X3_hasIndex at h
  refine lv_iload_n hx hb dX3_hasIndex_0 rfl (lv_at hl 1 rfl) ?_
  refine lv_if_lt (tgt := 16) hx hb dX3_hasIndex_1 (by decide) (fun c1 => ?_) (fun c1 => ?_)
  · replace h := ite_t c1 h
    refine lv_iconst (v := 0) hx hb dX3_hasIndex_16 (by decide) ?_
    replace h := Option.some.inj h
    subst h
    exact W.zret hx hb hr rfl (fun t ht hW => ⟨_, rfl, rfl, ht⟩) (fun q hq => by cases hq) dX3_hasIndex_17
  · replace h := ite_f c1 h
    refine lv_iload_n hx hb dX3_hasIndex_4 rfl (lv_at hl 1 rfl) ?_
    refine lv_aload_n hx hb dX3_hasIndex_5 rfl (lv_at hl 0 rfl) ?_
    refine va_get (D := D) (ci := 3) (v := .int s_size) (C := RX3) (T := TX3) (N := 4) hx hb hts hh0 hown hK.1 hP 0 rfl rfl 2 (by decide) hh1 (fun _ h9 => h9) rfl dX3_hasIndex_6 ?_
    refine lv_icmp_ge (tgt := 16) hx hb dX3_hasIndex_9 (by decide) (fun c9 => ?_) (fun c9 => ?_)
    · replace h := ite_t c9 h
      refine lv_iconst (v := 0) hx hb dX3_hasIndex_16 (by decide) ?_
      replace h := Option.some.inj h
      subst h
      exact W.zret hx hb hr rfl (fun t ht hW => ⟨_, rfl, rfl, ht⟩) (fun q hq => by cases hq) dX3_hasIndex_17
    · replace h := ite_f c9 h
      refine lv_iconst (v := 1) hx hb dX3_hasIndex_12 (by decide) ?_
      refine lv_goto (tgt := 17) hx hb dX3_hasIndex_13 (by decide) ?_
      replace h := Option.some.inj h
      subst h
      exact W.zret hx hb hr rfl (fun t ht hW => ⟨_, rfl, rfl, ht⟩) (fun q hq => by cases hq) dX3_hasIndex_17
theorem pd_X3_hasRange : yX3_hasRange.cls ≠ "java/lang/invoke/MethodHandle" ∧ yX3_hasRange.cls ≠ "java/lang/invoke/VarHandle" ∧ (parseMethodDescriptor yX3_hasRange.desc).map (fun d => d.parameters.length) = some 2 := by decide +kernel
def f_X3_hasRange (s_size : Int32) (x1 : Int32) (x2 : Int32) : Option (Bool) :=
  (if x1 < (0 : Int32) then (some false) else (if x2 < (0 : Int32) then (some false) else (if s_size < x1 then (some false) else (if (s_size - x1) < x2 then (some false) else (some true)))))
set_option maxHeartbeats 4000000 in
set_option maxRecDepth 100000 in
theorem c_X3_hasRange (l : Launch) (D : va_G) (g : Nat → ClassId) (aS : Nat → Nat) (s_used : Bool) (s_type : Int32) (s_size : Int32) (s_elements : Nat → Int64) (x1 : Int32) (x2 : Int32) (r : Bool) (hf : f_X3_hasRange s_size x1 x2 = some r) : CR l yX3_hasRange wsX3_hasRange 0 0 D g [.ref (aS 0), .int x1, .int x2] (wX3 g aS s_used s_type s_size s_elements) (QRi (bI r)) := by
  refine Met.ofW (cc := cX3_hasRange) (maxL := 3) (ret := (some .boolean)) (by decide) rfl ?_
  intro p e s m args below meth c s₁ B hml hv
  obtain ⟨rfl, hP, hK⟩ := hv
  have hx := B.exec
  have hb := B.bytes
  have hr := B.returns
  have hts := atoms_spec (ws := wsX3_hasRange) B.pre
  have hown : s.vm.findClass RX3 = some m.cls := findClass_of_methodNamed B.named
  have hlocks := B.notSynchronized
  have hh0 := (show ∀ w ∈ wsX30, w ∈ wsX3_hasRange from by decide +kernel)
  have hh1 := hts (.fieldLink RX3 23 "DecisionTableCompiler$Slot" "size" "I") (by decide +kernel)
  have hl := lv_entry ([.ref (aS 0), .int x1, .int x2]) (n := 3) (Nat.le_of_ble_eq_true rfl)
  rw [lg_entry_eq]
  generalize (lg_sl ([.ref (aS 0), .int x1, .int x2]) ++ List.replicate (3 - (lg_sl ([.ref (aS 0), .int x1, .int x2])).length) Slot.unset).toArray = ls at hl ⊢
  replace hl : lv_has ls 3 [(0, .ref (aS 0)), (1, .int x1), (2, .int x2)] := hl
  have h := hf
  unfold f_X3_hasRange at h
  refine lv_iload_n hx hb dX3_hasRange_0 rfl (lv_at hl 1 rfl) ?_
  refine lv_if_lt (tgt := 30) hx hb dX3_hasRange_1 (by decide) (fun c1 => ?_) (fun c1 => ?_)
  · replace h := ite_t c1 h
    refine lv_iconst (v := 0) hx hb dX3_hasRange_30 (by decide) ?_
    replace h := Option.some.inj h
    subst h
    exact W.zret hx hb hr rfl (fun t ht hW => ⟨_, rfl, rfl, ht⟩) (fun q hq => by cases hq) dX3_hasRange_31
  · replace h := ite_f c1 h
    refine lv_iload_n hx hb dX3_hasRange_4 rfl (lv_at hl 2 rfl) ?_
    refine lv_if_lt (tgt := 30) hx hb dX3_hasRange_5 (by decide) (fun c5 => ?_) (fun c5 => ?_)
    · replace h := ite_t c5 h
      refine lv_iconst (v := 0) hx hb dX3_hasRange_30 (by decide) ?_
      replace h := Option.some.inj h
      subst h
      exact W.zret hx hb hr rfl (fun t ht hW => ⟨_, rfl, rfl, ht⟩) (fun q hq => by cases hq) dX3_hasRange_31
    · replace h := ite_f c5 h
      refine lv_iload_n hx hb dX3_hasRange_8 rfl (lv_at hl 1 rfl) ?_
      refine lv_aload_n hx hb dX3_hasRange_9 rfl (lv_at hl 0 rfl) ?_
      refine va_get (D := D) (ci := 3) (v := .int s_size) (C := RX3) (T := TX3) (N := 4) hx hb hts hh0 hown hK.1 hP 0 rfl rfl 2 (by decide) hh1 (fun _ h9 => h9) rfl dX3_hasRange_10 ?_
      refine lv_icmp_gt (tgt := 30) hx hb dX3_hasRange_13 (by decide) (fun c13 => ?_) (fun c13 => ?_)
      · replace h := ite_t c13 h
        refine lv_iconst (v := 0) hx hb dX3_hasRange_30 (by decide) ?_
        replace h := Option.some.inj h
        subst h
        exact W.zret hx hb hr rfl (fun t ht hW => ⟨_, rfl, rfl, ht⟩) (fun q hq => by cases hq) dX3_hasRange_31
      · replace h := ite_f c13 h
        refine lv_iload_n hx hb dX3_hasRange_16 rfl (lv_at hl 2 rfl) ?_
        refine lv_aload_n hx hb dX3_hasRange_17 rfl (lv_at hl 0 rfl) ?_
        refine va_get (D := D) (ci := 3) (v := .int s_size) (C := RX3) (T := TX3) (N := 4) hx hb hts hh0 hown hK.1 hP 0 rfl rfl 2 (by decide) hh1 (fun _ h9 => h9) rfl dX3_hasRange_18 ?_
        refine lv_iload_n hx hb dX3_hasRange_21 rfl (lv_at hl 1 rfl) ?_
        refine lv_isub hx hb dX3_hasRange_22 ?_
        refine lv_icmp_gt (tgt := 30) hx hb dX3_hasRange_23 (by decide) (fun c23 => ?_) (fun c23 => ?_)
        · replace h := ite_t c23 h
          refine lv_iconst (v := 0) hx hb dX3_hasRange_30 (by decide) ?_
          replace h := Option.some.inj h
          subst h
          exact W.zret hx hb hr rfl (fun t ht hW => ⟨_, rfl, rfl, ht⟩) (fun q hq => by cases hq) dX3_hasRange_31
        · replace h := ite_f c23 h
          refine lv_iconst (v := 1) hx hb dX3_hasRange_26 (by decide) ?_
          refine lv_goto (tgt := 31) hx hb dX3_hasRange_27 (by decide) ?_
          replace h := Option.some.inj h
          subst h
          exact W.zret hx hb hr rfl (fun t ht hW => ⟨_, rfl, rfl, ht⟩) (fun q hq => by cases hq) dX3_hasRange_31
theorem pd_X3_narrow : yX3_narrow.cls ≠ "java/lang/invoke/MethodHandle" ∧ yX3_narrow.cls ≠ "java/lang/invoke/VarHandle" ∧ (parseMethodDescriptor yX3_narrow.desc).map (fun d => d.parameters.length) = some 1 := by decide +kernel
def f_X3_narrow (s_type : Int32) (x1 : Int64) : Option (Int64) :=
  (if s_type = (0 : Int32) then (if (lg_cmp x1 (0 : Int64)) = (0 : Int32) then (some (0 : Int64)) else (some (1 : Int64))) else (if s_type = (1 : Int32) then (some (((x1.toInt32).toInt8.toInt32).toInt64)) else (if s_type = (2 : Int32) then (some ((x1.toInt32).toInt64)) else (some x1))))
set_option maxHeartbeats 4000000 in
set_option maxRecDepth 100000 in
theorem c_X3_narrow (l : Launch) (D : va_G) (g : Nat → ClassId) (aS : Nat → Nat) (s_used : Bool) (s_type : Int32) (s_size : Int32) (s_elements : Nat → Int64) (x1 : Int64) (r : Int64) (hf : f_X3_narrow s_type x1 = some r) : CR l yX3_narrow wsX3_narrow 0 0 D g [.ref (aS 0), .long x1] (wX3 g aS s_used s_type s_size s_elements) (QRl r) := by
  refine Met.ofW (cc := cX3_narrow) (maxL := 3) (ret := (some .long)) (by decide) rfl ?_
  intro p e s m args below meth c s₁ B hml hv
  obtain ⟨rfl, hP, hK⟩ := hv
  have hx := B.exec
  have hb := B.bytes
  have hr := B.returns
  have hts := atoms_spec (ws := wsX3_narrow) B.pre
  have hown : s.vm.findClass RX3 = some m.cls := findClass_of_methodNamed B.named
  have hlocks := B.notSynchronized
  have hh0 := (show ∀ w ∈ wsX30, w ∈ wsX3_narrow from by decide +kernel)
  have hh1 := hts (.fieldLink RX3 19 "DecisionTableCompiler$Slot" "type" "I") (by decide +kernel)
  have hl := lv_entry ([.ref (aS 0), .long x1]) (n := 3) (Nat.le_of_ble_eq_true rfl)
  rw [lg_entry_eq]
  generalize (lg_sl ([.ref (aS 0), .long x1]) ++ List.replicate (3 - (lg_sl ([.ref (aS 0), .long x1])).length) Slot.unset).toArray = ls at hl ⊢
  replace hl : lv_has ls 3 [(0, .ref (aS 0)), (1, .long x1)] := hl
  have h := hf
  unfold f_X3_narrow at h
  refine lv_aload_n hx hb dX3_narrow_0 rfl (lv_at hl 0 rfl) ?_
  refine va_get (D := D) (ci := 3) (v := .int s_type) (C := RX3) (T := TX3) (N := 4) hx hb hts hh0 hown hK.1 hP 0 rfl rfl 1 (by decide) hh1 (fun _ h9 => h9) rfl dX3_narrow_1 ?_
  by_cases c4_0 : s_type = (0 : Int32)
  · replace h := ite_t c4_0 h
    refine lv_tableIn (off := 28) (tgt := 32) hx hb dX3_narrow_4 (by rw [c4_0]; decide) (by rw [c4_0]; decide) (by rw [c4_0]; rfl) (by decide) ?_
    refine lv_lload_n hx hb dX3_narrow_32 rfl (lv_at hl 1 rfl) ?_
    refine lv_lconst (v := 0) hx hb dX3_narrow_33 (by decide) ?_
    refine W.lcmp hx hb dX3_narrow_34 ?_
    refine lv_if_eq (tgt := 42) hx hb dX3_narrow_35 (by decide) (fun c35 => ?_) (fun c35 => ?_)
    · replace h := ite_t c35 h
      refine lv_lconst (v := 0) hx hb dX3_narrow_42 (by decide) ?_
      replace h := Option.some.inj h
      subst h
      exact W.lret hx hb hr (fun t ht hW => ⟨_, rfl, rfl, ht⟩) (fun q hq => by cases hq) dX3_narrow_43
    · replace h := ite_f c35 h
      refine lv_lconst (v := 1) hx hb dX3_narrow_38 (by decide) ?_
      refine lv_goto (tgt := 43) hx hb dX3_narrow_39 (by decide) ?_
      replace h := Option.some.inj h
      subst h
      exact W.lret hx hb hr (fun t ht hW => ⟨_, rfl, rfl, ht⟩) (fun q hq => by cases hq) dX3_narrow_43
  · replace h := ite_f c4_0 h
    by_cases c4_1 : s_type = (1 : Int32)
    · replace h := ite_t c4_1 h
      refine lv_tableIn (off := 40) (tgt := 44) hx hb dX3_narrow_4 (by rw [c4_1]; decide) (by rw [c4_1]; decide) (by rw [c4_1]; rfl) (by decide) ?_
      refine lv_lload_n hx hb dX3_narrow_44 rfl (lv_at hl 1 rfl) ?_
      refine lv_l2i (v := x1.toInt32) hx hb dX3_narrow_45 rfl ?_
      refine lv_i2b (v := (x1.toInt32).toInt8.toInt32) hx hb dX3_narrow_46 rfl ?_
      refine lv_i2l (v := ((x1.toInt32).toInt8.toInt32).toInt64) hx hb dX3_narrow_47 rfl ?_
      replace h := Option.some.inj h
      subst h
      exact W.lret hx hb hr (fun t ht hW => ⟨_, rfl, rfl, ht⟩) (fun q hq => by cases hq) dX3_narrow_48
    · replace h := ite_f c4_1 h
      by_cases c4_2 : s_type = (2 : Int32)
      · replace h := ite_t c4_2 h
        refine lv_tableIn (off := 45) (tgt := 49) hx hb dX3_narrow_4 (by rw [c4_2]; decide) (by rw [c4_2]; decide) (by rw [c4_2]; rfl) (by decide) ?_
        refine lv_lload_n hx hb dX3_narrow_49 rfl (lv_at hl 1 rfl) ?_
        refine lv_l2i (v := x1.toInt32) hx hb dX3_narrow_50 rfl ?_
        refine lv_i2l (v := (x1.toInt32).toInt64) hx hb dX3_narrow_51 rfl ?_
        replace h := Option.some.inj h
        subst h
        exact W.lret hx hb hr (fun t ht hW => ⟨_, rfl, rfl, ht⟩) (fun q hq => by cases hq) dX3_narrow_52
      · replace h := ite_f c4_2 h
        have n4_0 := lv_neT (a := 0) c4_0 (by decide)
        have n4_1 := lv_neT (a := 1) c4_1 (by decide)
        have n4_2 := lv_neT (a := 2) c4_2 (by decide)
        refine lv_tableOut (tgt := 53) hx hb dX3_narrow_4 (by omega) (by decide) ?_
        refine lv_lload_n hx hb dX3_narrow_53 rfl (lv_at hl 1 rfl) ?_
        replace h := Option.some.inj h
        subst h
        exact W.lret hx hb hr (fun t ht hW => ⟨_, rfl, rfl, ht⟩) (fun q hq => by cases hq) dX3_narrow_54
theorem pd_X3_put : yX3_put.cls ≠ "java/lang/invoke/MethodHandle" ∧ yX3_put.cls ≠ "java/lang/invoke/VarHandle" ∧ (parseMethodDescriptor yX3_put.desc).map (fun d => d.parameters.length) = some 2 := by decide +kernel
def f_X3_put (s_type : Int32) (s_elements : Nat → Int64) (x1 : Int32) (x2 : Int64) : Option ((Nat → Int64)) :=
  (Option.bind (f_X3_narrow s_type x2) fun z7 => (ix 700 x1 (some (vp_updL s_elements x1.toNatClampNeg z7))))
set_option maxHeartbeats 4000000 in
set_option maxRecDepth 100000 in
theorem c_X3_put (l : Launch) (sz : Nat) (D : va_G) (g : Nat → ClassId) (aS : Nat → Nat) (s_used : Bool) (s_type : Int32) (s_size : Int32) (s_elements : Nat → Int64) (x1 : Int32) (x2 : Int64) (s_elements_n : Nat → Int64) (hf : f_X3_put s_type s_elements x1 x2 = some s_elements_n) : CM l yX3_put wsX3_put 1 22 sz D g [.ref (aS 0), .int x1, .long x2] (wX3 g aS s_used s_type s_size s_elements) (QMv D (wX3 g aS s_used s_type s_size s_elements) sz (wX3 g aS s_used s_type s_size s_elements_n)) := by
  refine Met.ofW (cc := cX3_put) (maxL := 4) (ret := none) (by decide) rfl ?_
  intro p e s m args below meth c s₁ B hml hv
  obtain ⟨rfl, hsz, hP, hK, hD0⟩ := hv
  have hx := B.exec
  have hb := B.bytes
  have hr := B.returns
  have hts := atoms_spec (ws := wsX3_put) B.pre
  have hown : s.vm.findClass RX3 = some m.cls := findClass_of_methodNamed B.named
  have hlocks := B.notSynchronized
  have hh0 := (show ∀ w ∈ wsX30, w ∈ wsX3_put from by decide +kernel)
  have hh1 := hts (.fieldLink RX3 9 "DecisionTableCompiler$Slot" "elements" "[J") (by decide +kernel)
  subst hsz
  have hD := hD0.self (sz := s.heap.size)
  have hA : ∀ q : Nat, s.heap.size ≤ q → va_A (wX3 g aS s_used s_type s_size s_elements) s.heap.size q := fun q h => Or.inr h
  have hS : va_S (va_A (wX3 g aS s_used s_type s_size s_elements) s.heap.size) s.heap s.heap [] := va_S.rf
  have hl := lv_entry ([.ref (aS 0), .int x1, .long x2]) (n := 4) (Nat.le_of_ble_eq_true rfl)
  rw [lg_entry_eq]
  generalize (lg_sl ([.ref (aS 0), .int x1, .long x2]) ++ List.replicate (4 - (lg_sl ([.ref (aS 0), .int x1, .long x2])).length) Slot.unset).toArray = ls at hl ⊢
  replace hl : lv_has ls 4 [(0, .ref (aS 0)), (1, .int x1), (2, .long x2)] := hl
  have h := hf
  unfold f_X3_put at h
  obtain ⟨H, hH⟩ : ∃ H, H = s.heap := ⟨_, rfl⟩
  obtain ⟨locs, hlc⟩ : ∃ q : List Loc, q = [] := ⟨_, rfl⟩
  have hS : va_S (va_A (wX3 g aS s_used s_type s_size s_elements) s.heap.size) s.heap H locs := by rw [hH, hlc]; exact hS
  replace hP : va_P D vwCl (wX3 g aS s_used s_type s_size s_elements) H := by rw [hH]; exact hP
  suffices hW : W p l e (headSpec wsX3_put ({ frames := 1, cells := 0, slots := 0, locals := 22 })).room s m ([.ref (aS 0), .int x1, .long x2] : List Value).toArray below meth c H locs 0 0 (MQ below (QMv D (wX3 g aS s_used s_type s_size s_elements) s.heap.size (wX3 g aS s_used s_type s_size s_elements_n)) ([.ref (aS 0), .int x1, .long x2] : List Value).toArray s 0 0 (va_A (wX3 g aS s_used s_type s_size s_elements) s.heap.size)) (F0 m 0 ls []) by rw [hH, hlc] at hW; exact hW
  clear hH hlc
  refine lv_aload_n hx hb dX3_put_0 rfl (lv_at hl 0 rfl) ?_
  refine va_get (D := D) (ci := 3) (v := .ref (aS 1)) (C := RX3) (T := TX3) (N := 4) hx hb hts hh0 hown hK.1 hP 0 rfl rfl 3 (by decide) hh1 (fun _ h9 => h9) rfl dX3_put_1 ?_
  refine lv_iload_n hx hb dX3_put_4 rfl (lv_at hl 1 rfl) ?_
  refine lv_aload_n hx hb dX3_put_5 rfl (lv_at hl 0 rfl) ?_
  refine lv_lload_n hx hb dX3_put_6 rfl (lv_at hl 2 rfl) ?_
  obtain ⟨z7, e_7, h⟩ := bd_s h
  refine cr_l (va_runV (As := [.long x2]) (rest := [.int x1, .ref (aS 1)]) ⟨hx, hb, hml, hown, hts⟩ (c_X3_narrow l D g aS s_used s_type s_size s_elements x2 z7 e_7) (cwV 1 hts gX3_put_X3_narrow rfl rfl rfl ⟨rfl, pd_X3_narrow⟩ ⟨Nat.le_of_ble_eq_true rfl, Nat.le_of_ble_eq_true rfl⟩) (pr_v hK hP (q0 := 0) (ci := 3) rfl rfl rfl) rfl rfl hl.1 rfl (lv_room (Nat.le_of_ble_eq_true rfl)) dX3_put_7 ⟨Nat.zero_le _, Nat.zero_le _⟩) ?_
  have ib10 := ix_in h
  replace h := ix_k h
  refine va_last hx hb hK.1 hP hD hS 1 1 rfl rfl ib10 dX3_put_10 (fun H locs hP hD hS => ?_)
  replace hP : va_P D vwCl (wX3 g aS s_used s_type s_size (vp_updL s_elements x1.toNatClampNeg z7)) H := hP
  replace hD : va_D (va_A (wX3 g aS s_used s_type s_size s_elements) s.heap.size) (wX3 g aS s_used s_type s_size (vp_updL s_elements x1.toNatClampNeg z7)) := hD
  replace h := Option.some.inj h
  subst h
  exact W.vret hx hb hr (fun t ht hW => ⟨⟨(), rfl, trivial, by rw [ht]; exact hP, hD⟩, hS.F ht⟩) hS.2.2 dX3_put_11
