def adX0 (h0 q1 : Nat) : Nat → Nat := fun k => match k with
  | 0 => h0
  | _ => q1
theorem pd_X0_init : yX0_init.cls ≠ "java/lang/invoke/MethodHandle" ∧ yX0_init.cls ≠ "java/lang/invoke/VarHandle" ∧ (parseMethodDescriptor yX0_init.desc).map (fun d => d.parameters.length) = some 0 := by decide +kernel
set_option maxHeartbeats 4000000 in
set_option maxRecDepth 100000 in
theorem c_X0_init (l : Launch) (sz : Nat) (D : va_G) (g : Nat → ClassId) (h0 : Nat) : CI (S := Nat → Nat) l yX0_init wsX0_init 1 12 1 40 sz D (KK D g) [.ref h0] [(h0, .inr (0, [.int 0, .null]))] (fun a => a 0 = h0) (fun a => wX0 g a (0) (fun _ => 0)) := by
  refine Met.ofW (cc := cX0_init) (maxL := 1) (ret := none) (by decide) rfl ?_
  intro p e s m args below meth c s₁ B hml hv
  obtain ⟨rfl, hsz, hP, hK, hD0⟩ := hv
  have hx := B.exec
  have hb := B.bytes
  have hr := B.returns
  have hts := atoms_spec (ws := wsX0_init) B.pre
  have hown : s.vm.findClass RX0 = some m.cls := findClass_of_methodNamed B.named
  have hlocks := B.notSynchronized
  have hin : meth.name = "<init>" := (name_of_methodNamed B.named B.method).1
  subst hsz
  have hD := hD0.self (sz := s.heap.size)
  obtain ⟨A, hAe⟩ : ∃ A, A = va_A [(h0, .inr (0, [.int 0, .null]))] s.heap.size := ⟨_, rfl⟩
  rw [← hAe] at hD
  have hA : ∀ q : Nat, s.heap.size ≤ q → A q := fun q h => by rw [hAe]; exact Or.inr h
  have hS : va_S A s.heap s.heap [] := va_S.rf
  replace hP : va_P D vwCl [(h0, .inr (0, [.int 0, .null]))] s.heap := hP
  have hh0 := (show ∀ w ∈ wsX00, w ∈ wsX0_init from by decide +kernel)
  have hh1 := hts (.arrayClass .byte) (by decide +kernel)
  have hh2 := hts (.fieldLink RX0 9 "DecisionTableCompiler$InputBuffer" "bytes" "[B") (by decide +kernel)
  have hl := lv_entry ([.ref h0]) (n := 1) (Nat.le_of_ble_eq_true rfl)
  rw [lg_entry_eq]
  generalize (lg_sl ([.ref h0]) ++ List.replicate (1 - (lg_sl ([.ref h0])).length) Slot.unset).toArray = ls at hl ⊢
  replace hl : lv_has ls 1 [(0, .ref h0)] := hl
  refine lv_aload_n hx hb dX0_init_0 rfl (lv_at hl 0 rfl) ?_
  refine W.objInit hx hb hown (hts (.methodLink RX0 3 objectInit) (List.mem_of_getElem? (i := 1) rfl)) (hts (.instanceMethod objectInit) (List.mem_of_getElem? (i := 2) rfl)) (hts (.code objectInit ⟨#[0xb1]⟩ 1 none) (List.mem_of_getElem? (i := 3) rfl)) rfl (by rw [hml]; exact hl.1) rfl dX0_init_1 (Nat.le_of_ble_eq_true rfl) (Nat.le_of_ble_eq_true rfl) ?_
  refine W.eq (g2 := F0 m 4 ls []) rfl ?_
  refine lv_aload_n hx hb dX0_init_4 rfl (lv_at hl 0 rfl) ?_
  refine lv_bipush (v := 40) hx hb dX0_init_5 (by decide) ?_
  refine na_b hx hb hh1 hK hP hD hS hA (by decide) (N' := 40) (by decide) (Nat.le_of_ble_eq_true rfl) (Nat.le_of_ble_eq_true rfl) (Nat.le_of_ble_eq_true rfl) dX0_init_7 (fun q1 H hP hD hS => ?_)
  replace hP : va_P D vwCl [(h0, .inr (0, [.int 0, .null])), (q1, .inl (g 2, 40, .inl (fun _ => 0)))] H := hP
  replace hD : va_D A [(h0, .inr (0, [.int 0, .null])), (q1, .inl (g 2, 40, .inl (fun _ => 0)))] := hD
  refine va_putF (D := D) (ci := 0) (v := .ref q1) (ty := .array .byte) (C := RX0) (T := TX0) (N := 2) hx hb hts hh0 tyX0 tyX0_ok nmX0 hown hK.1 hP hD hS 0 rfl rfl 1 (by decide) hh2 (fun _ h9 => h9) rfl hin rfl (by decide +kernel) rfl rfl (Nat.le_of_ble_eq_true rfl) dX0_init_9 (fun H locs hP hD hS => ?_)
  replace hP : va_P D vwCl [(h0, .inr (0, [.int 0, .ref q1])), (q1, .inl (g 2, 40, .inl (fun _ => 0)))] H := hP
  replace hD : va_D A [(h0, .inr (0, [.int 0, .ref q1])), (q1, .inl (g 2, 40, .inl (fun _ => 0)))] := hD
  refine W.widen (k := 1) (n := 40) (Nat.le_of_ble_eq_true rfl) (Nat.le_of_ble_eq_true rfl) ?_
  subst hAe
  exact W.vret hx hb hr (fun t ht hW => ⟨⟨adX0 h0 q1, rfl, rfl, by rw [ht]; exact hP, hD⟩, hS.F ht⟩) hS.2.2 dX0_init_12
def adX1 (h0 q1 q2 q3 q4 : Nat) : Nat → Nat := fun k => match k with
  | 0 => h0
  | 1 => q1
  | 2 => q2
  | 3 => q3
  | _ => q4
theorem pd_X1_init : yX1_init.cls ≠ "java/lang/invoke/MethodHandle" ∧ yX1_init.cls ≠ "java/lang/invoke/VarHandle" ∧ (parseMethodDescriptor yX1_init.desc).map (fun d => d.parameters.length) = some 0 := by decide +kernel
set_option maxHeartbeats 4000000 in
set_option maxRecDepth 100000 in
theorem c_X1_init (l : Launch) (sz : Nat) (D : va_G) (g : Nat → ClassId) (h0 : Nat) : CI (S := Nat → Nat) l yX1_init wsX1_init 1 12 4 3892 sz D (KK D g) [.ref h0] [(h0, .inr (1, [.int 0, .null, .null, .null, .null]))] (fun a => a 0 = h0) (fun a => wX1 g a (0) (fun _ => 0) (fun _ => 0) (fun _ => 0) (fun _ => 0)) := by
  refine Met.ofW (cc := cX1_init) (maxL := 1) (ret := none) (by decide) rfl ?_
  intro p e s m args below meth c s₁ B hml hv
  obtain ⟨rfl, hsz, hP, hK, hD0⟩ := hv
  have hx := B.exec
  have hb := B.bytes
  have hr := B.returns
  have hts := atoms_spec (ws := wsX1_init) B.pre
  have hown : s.vm.findClass RX1 = some m.cls := findClass_of_methodNamed B.named
  have hlocks := B.notSynchronized
  have hin : meth.name = "<init>" := (name_of_methodNamed B.named B.method).1
  subst hsz
  have hD := hD0.self (sz := s.heap.size)
  obtain ⟨A, hAe⟩ : ∃ A, A = va_A [(h0, .inr (1, [.int 0, .null, .null, .null, .null]))] s.heap.size := ⟨_, rfl⟩
  rw [← hAe] at hD
  have hA : ∀ q : Nat, s.heap.size ≤ q → A q := fun q h => by rw [hAe]; exact Or.inr h
  have hS : va_S A s.heap s.heap [] := va_S.rf
  replace hP : va_P D vwCl [(h0, .inr (1, [.int 0, .null, .null, .null, .null]))] s.heap := hP
  have hh0 := (show ∀ w ∈ wsX10, w ∈ wsX1_init from by decide +kernel)
  have hh1 := hts (.arrayClass .int) (by decide +kernel)
  have hh2 := hts (.fieldLink RX1 9 "DecisionTableCompiler$Planner" "steps" "[I") (by decide +kernel)
  have hh3 := hts (.fieldLink RX1 15 "DecisionTableCompiler$Planner" "weights" "[I") (by decide +kernel)
  have hh4 := hts (.fieldLink RX1 18 "DecisionTableCompiler$Planner" "actions" "[I") (by decide +kernel)
  have hh5 := hts (.arrayClass .long) (by decide +kernel)
  have hh6 := hts (.fieldLink RX1 21 "DecisionTableCompiler$Planner" "ranks" "[J") (by decide +kernel)
  have hl := lv_entry ([.ref h0]) (n := 1) (Nat.le_of_ble_eq_true rfl)
  rw [lg_entry_eq]
  generalize (lg_sl ([.ref h0]) ++ List.replicate (1 - (lg_sl ([.ref h0])).length) Slot.unset).toArray = ls at hl ⊢
  replace hl : lv_has ls 1 [(0, .ref h0)] := hl
  refine lv_aload_n hx hb dX1_init_0 rfl (lv_at hl 0 rfl) ?_
  refine W.objInit hx hb hown (hts (.methodLink RX1 3 objectInit) (List.mem_of_getElem? (i := 1) rfl)) (hts (.instanceMethod objectInit) (List.mem_of_getElem? (i := 2) rfl)) (hts (.code objectInit ⟨#[0xb1]⟩ 1 none) (List.mem_of_getElem? (i := 3) rfl)) rfl (by rw [hml]; exact hl.1) rfl dX1_init_1 (Nat.le_of_ble_eq_true rfl) (Nat.le_of_ble_eq_true rfl) ?_
  refine W.eq (g2 := F0 m 4 ls []) rfl ?_
  refine lv_aload_n hx hb dX1_init_4 rfl (lv_at hl 0 rfl) ?_
  refine lv_iconst (v := 4) hx hb dX1_init_5 (by decide) ?_
  refine na_i hx hb hh1 hK hP hD hS hA (by decide) (N' := 4) (by decide) (Nat.le_of_ble_eq_true rfl) (Nat.le_of_ble_eq_true rfl) (Nat.le_of_ble_eq_true rfl) dX1_init_6 (fun q1 H hP hD hS => ?_)
  replace hP : va_P D vwCl [(h0, .inr (1, [.int 0, .null, .null, .null, .null])), (q1, .inl (g 0, 4, .inl (fun _ => 0)))] H := hP
  replace hD : va_D A [(h0, .inr (1, [.int 0, .null, .null, .null, .null])), (q1, .inl (g 0, 4, .inl (fun _ => 0)))] := hD
  refine va_putF (D := D) (ci := 1) (v := .ref q1) (ty := .array .int) (C := RX1) (T := TX1) (N := 5) hx hb hts hh0 tyX1 tyX1_ok nmX1 hown hK.1 hP hD hS 0 rfl rfl 1 (by decide) hh2 (fun _ h9 => h9) rfl hin rfl (by decide +kernel) rfl rfl (Nat.le_of_ble_eq_true rfl) dX1_init_8 (fun H locs hP hD hS => ?_)
  replace hP : va_P D vwCl [(h0, .inr (1, [.int 0, .ref q1, .null, .null, .null])), (q1, .inl (g 0, 4, .inl (fun _ => 0)))] H := hP
  replace hD : va_D A [(h0, .inr (1, [.int 0, .ref q1, .null, .null, .null])), (q1, .inl (g 0, 4, .inl (fun _ => 0)))] := hD
  refine lv_aload_n hx hb dX1_init_11 rfl (lv_at hl 0 rfl) ?_
  refine lv_sipush (v := 1296) hx hb dX1_init_12 (by decide) ?_
  refine na_i hx hb hh1 hK hP hD hS hA (by decide) (N' := 1296) (by decide) (Nat.le_of_ble_eq_true rfl) (Nat.le_of_ble_eq_true rfl) (Nat.le_of_ble_eq_true rfl) dX1_init_15 (fun q2 H hP hD hS => ?_)
  replace hP : va_P D vwCl [(h0, .inr (1, [.int 0, .ref q1, .null, .null, .null])), (q1, .inl (g 0, 4, .inl (fun _ => 0))), (q2, .inl (g 0, 1296, .inl (fun _ => 0)))] H := hP
  replace hD : va_D A [(h0, .inr (1, [.int 0, .ref q1, .null, .null, .null])), (q1, .inl (g 0, 4, .inl (fun _ => 0))), (q2, .inl (g 0, 1296, .inl (fun _ => 0)))] := hD
  refine va_putF (D := D) (ci := 1) (v := .ref q2) (ty := .array .int) (C := RX1) (T := TX1) (N := 5) hx hb hts hh0 tyX1 tyX1_ok nmX1 hown hK.1 hP hD hS 0 rfl rfl 2 (by decide) hh3 (fun _ h9 => h9) rfl hin rfl (by decide +kernel) rfl rfl (Nat.le_of_ble_eq_true rfl) dX1_init_17 (fun H locs hP hD hS => ?_)
  replace hP : va_P D vwCl [(h0, .inr (1, [.int 0, .ref q1, .ref q2, .null, .null])), (q1, .inl (g 0, 4, .inl (fun _ => 0))), (q2, .inl (g 0, 1296, .inl (fun _ => 0)))] H := hP
  replace hD : va_D A [(h0, .inr (1, [.int 0, .ref q1, .ref q2, .null, .null])), (q1, .inl (g 0, 4, .inl (fun _ => 0))), (q2, .inl (g 0, 1296, .inl (fun _ => 0)))] := hD
  refine lv_aload_n hx hb dX1_init_20 rfl (lv_at hl 0 rfl) ?_
  refine lv_sipush (v := 1296) hx hb dX1_init_21 (by decide) ?_
  refine na_i hx hb hh1 hK hP hD hS hA (by decide) (N' := 1296) (by decide) (Nat.le_of_ble_eq_true rfl) (Nat.le_of_ble_eq_true rfl) (Nat.le_of_ble_eq_true rfl) dX1_init_24 (fun q3 H hP hD hS => ?_)
  replace hP : va_P D vwCl [(h0, .inr (1, [.int 0, .ref q1, .ref q2, .null, .null])), (q1, .inl (g 0, 4, .inl (fun _ => 0))), (q2, .inl (g 0, 1296, .inl (fun _ => 0))), (q3, .inl (g 0, 1296, .inl (fun _ => 0)))] H := hP
  replace hD : va_D A [(h0, .inr (1, [.int 0, .ref q1, .ref q2, .null, .null])), (q1, .inl (g 0, 4, .inl (fun _ => 0))), (q2, .inl (g 0, 1296, .inl (fun _ => 0))), (q3, .inl (g 0, 1296, .inl (fun _ => 0)))] := hD
  refine va_putF (D := D) (ci := 1) (v := .ref q3) (ty := .array .int) (C := RX1) (T := TX1) (N := 5) hx hb hts hh0 tyX1 tyX1_ok nmX1 hown hK.1 hP hD hS 0 rfl rfl 3 (by decide) hh4 (fun _ h9 => h9) rfl hin rfl (by decide +kernel) rfl rfl (Nat.le_of_ble_eq_true rfl) dX1_init_26 (fun H locs hP hD hS => ?_)
  replace hP : va_P D vwCl [(h0, .inr (1, [.int 0, .ref q1, .ref q2, .ref q3, .null])), (q1, .inl (g 0, 4, .inl (fun _ => 0))), (q2, .inl (g 0, 1296, .inl (fun _ => 0))), (q3, .inl (g 0, 1296, .inl (fun _ => 0)))] H := hP
  replace hD : va_D A [(h0, .inr (1, [.int 0, .ref q1, .ref q2, .ref q3, .null])), (q1, .inl (g 0, 4, .inl (fun _ => 0))), (q2, .inl (g 0, 1296, .inl (fun _ => 0))), (q3, .inl (g 0, 1296, .inl (fun _ => 0)))] := hD
  refine lv_aload_n hx hb dX1_init_29 rfl (lv_at hl 0 rfl) ?_
  refine lv_sipush (v := 1296) hx hb dX1_init_30 (by decide) ?_
  refine na_l hx hb hh5 hK hP hD hS hA (by decide) (N' := 1296) (by decide) (Nat.le_of_ble_eq_true rfl) (Nat.le_of_ble_eq_true rfl) (Nat.le_of_ble_eq_true rfl) dX1_init_33 (fun q4 H hP hD hS => ?_)
  replace hP : va_P D vwCl [(h0, .inr (1, [.int 0, .ref q1, .ref q2, .ref q3, .null])), (q1, .inl (g 0, 4, .inl (fun _ => 0))), (q2, .inl (g 0, 1296, .inl (fun _ => 0))), (q3, .inl (g 0, 1296, .inl (fun _ => 0))), (q4, .inl (g 1, 1296, .inr (.inl (fun _ => 0))))] H := hP
  replace hD : va_D A [(h0, .inr (1, [.int 0, .ref q1, .ref q2, .ref q3, .null])), (q1, .inl (g 0, 4, .inl (fun _ => 0))), (q2, .inl (g 0, 1296, .inl (fun _ => 0))), (q3, .inl (g 0, 1296, .inl (fun _ => 0))), (q4, .inl (g 1, 1296, .inr (.inl (fun _ => 0))))] := hD
  refine va_putF (D := D) (ci := 1) (v := .ref q4) (ty := .array .long) (C := RX1) (T := TX1) (N := 5) hx hb hts hh0 tyX1 tyX1_ok nmX1 hown hK.1 hP hD hS 0 rfl rfl 4 (by decide) hh6 (fun _ h9 => h9) rfl hin rfl (by decide +kernel) rfl rfl (Nat.le_of_ble_eq_true rfl) dX1_init_35 (fun H locs hP hD hS => ?_)
  replace hP : va_P D vwCl [(h0, .inr (1, [.int 0, .ref q1, .ref q2, .ref q3, .ref q4])), (q1, .inl (g 0, 4, .inl (fun _ => 0))), (q2, .inl (g 0, 1296, .inl (fun _ => 0))), (q3, .inl (g 0, 1296, .inl (fun _ => 0))), (q4, .inl (g 1, 1296, .inr (.inl (fun _ => 0))))] H := hP
  replace hD : va_D A [(h0, .inr (1, [.int 0, .ref q1, .ref q2, .ref q3, .ref q4])), (q1, .inl (g 0, 4, .inl (fun _ => 0))), (q2, .inl (g 0, 1296, .inl (fun _ => 0))), (q3, .inl (g 0, 1296, .inl (fun _ => 0))), (q4, .inl (g 1, 1296, .inr (.inl (fun _ => 0))))] := hD
  refine W.widen (k := 4) (n := 3892) (Nat.le_of_ble_eq_true rfl) (Nat.le_of_ble_eq_true rfl) ?_
  subst hAe
  exact W.vret hx hb hr (fun t ht hW => ⟨⟨adX1 h0 q1 q2 q3 q4, rfl, rfl, by rw [ht]; exact hP, hD⟩, hS.F ht⟩) hS.2.2 dX1_init_38
def adX2 (h0 q1 : Nat) : Nat → Nat := fun k => match k with
  | 0 => h0
  | _ => q1
theorem pd_X2_init : yX2_init.cls ≠ "java/lang/invoke/MethodHandle" ∧ yX2_init.cls ≠ "java/lang/invoke/VarHandle" ∧ (parseMethodDescriptor yX2_init.desc).map (fun d => d.parameters.length) = some 0 := by decide +kernel
set_option maxHeartbeats 4000000 in
set_option maxRecDepth 100000 in
theorem c_X2_init (l : Launch) (sz : Nat) (D : va_G) (g : Nat → ClassId) (h0 : Nat) : CI (S := Nat → Nat) l yX2_init wsX2_init 1 12 1 4 sz D (KK D g) [.ref h0] [(h0, .inr (2, [.int 0, .null, .int 0, .int 0]))] (fun a => a 0 = h0) (fun a => wX2 g a (0) (fun _ => 0) (0) (0)) := by
  refine Met.ofW (cc := cX2_init) (maxL := 1) (ret := none) (by decide) rfl ?_
  intro p e s m args below meth c s₁ B hml hv
  obtain ⟨rfl, hsz, hP, hK, hD0⟩ := hv
  have hx := B.exec
  have hb := B.bytes
  have hr := B.returns
  have hts := atoms_spec (ws := wsX2_init) B.pre
  have hown : s.vm.findClass RX2 = some m.cls := findClass_of_methodNamed B.named
  have hlocks := B.notSynchronized
  have hin : meth.name = "<init>" := (name_of_methodNamed B.named B.method).1
  subst hsz
  have hD := hD0.self (sz := s.heap.size)
  obtain ⟨A, hAe⟩ : ∃ A, A = va_A [(h0, .inr (2, [.int 0, .null, .int 0, .int 0]))] s.heap.size := ⟨_, rfl⟩
  rw [← hAe] at hD
  have hA : ∀ q : Nat, s.heap.size ≤ q → A q := fun q h => by rw [hAe]; exact Or.inr h
  have hS : va_S A s.heap s.heap [] := va_S.rf
  replace hP : va_P D vwCl [(h0, .inr (2, [.int 0, .null, .int 0, .int 0]))] s.heap := hP
  have hh0 := (show ∀ w ∈ wsX20, w ∈ wsX2_init from by decide +kernel)
  have hh1 := hts (.arrayClass .int) (by decide +kernel)
  have hh2 := hts (.fieldLink RX2 9 "DecisionTableCompiler$RuleText" "sets" "[I") (by decide +kernel)
  have hl := lv_entry ([.ref h0]) (n := 1) (Nat.le_of_ble_eq_true rfl)
  rw [lg_entry_eq]
  generalize (lg_sl ([.ref h0]) ++ List.replicate (1 - (lg_sl ([.ref h0])).length) Slot.unset).toArray = ls at hl ⊢
  replace hl : lv_has ls 1 [(0, .ref h0)] := hl
  refine lv_aload_n hx hb dX2_init_0 rfl (lv_at hl 0 rfl) ?_
  refine W.objInit hx hb hown (hts (.methodLink RX2 3 objectInit) (List.mem_of_getElem? (i := 1) rfl)) (hts (.instanceMethod objectInit) (List.mem_of_getElem? (i := 2) rfl)) (hts (.code objectInit ⟨#[0xb1]⟩ 1 none) (List.mem_of_getElem? (i := 3) rfl)) rfl (by rw [hml]; exact hl.1) rfl dX2_init_1 (Nat.le_of_ble_eq_true rfl) (Nat.le_of_ble_eq_true rfl) ?_
  refine W.eq (g2 := F0 m 4 ls []) rfl ?_
  refine lv_aload_n hx hb dX2_init_4 rfl (lv_at hl 0 rfl) ?_
  refine lv_iconst (v := 4) hx hb dX2_init_5 (by decide) ?_
  refine na_i hx hb hh1 hK hP hD hS hA (by decide) (N' := 4) (by decide) (Nat.le_of_ble_eq_true rfl) (Nat.le_of_ble_eq_true rfl) (Nat.le_of_ble_eq_true rfl) dX2_init_6 (fun q1 H hP hD hS => ?_)
  replace hP : va_P D vwCl [(h0, .inr (2, [.int 0, .null, .int 0, .int 0])), (q1, .inl (g 0, 4, .inl (fun _ => 0)))] H := hP
  replace hD : va_D A [(h0, .inr (2, [.int 0, .null, .int 0, .int 0])), (q1, .inl (g 0, 4, .inl (fun _ => 0)))] := hD
  refine va_putF (D := D) (ci := 2) (v := .ref q1) (ty := .array .int) (C := RX2) (T := TX2) (N := 4) hx hb hts hh0 tyX2 tyX2_ok nmX2 hown hK.1 hP hD hS 0 rfl rfl 1 (by decide) hh2 (fun _ h9 => h9) rfl hin rfl (by decide +kernel) rfl rfl (Nat.le_of_ble_eq_true rfl) dX2_init_8 (fun H locs hP hD hS => ?_)
  replace hP : va_P D vwCl [(h0, .inr (2, [.int 0, .ref q1, .int 0, .int 0])), (q1, .inl (g 0, 4, .inl (fun _ => 0)))] H := hP
  replace hD : va_D A [(h0, .inr (2, [.int 0, .ref q1, .int 0, .int 0])), (q1, .inl (g 0, 4, .inl (fun _ => 0)))] := hD
  refine W.widen (k := 1) (n := 4) (Nat.le_of_ble_eq_true rfl) (Nat.le_of_ble_eq_true rfl) ?_
  subst hAe
  exact W.vret hx hb hr (fun t ht hW => ⟨⟨adX2 h0 q1, rfl, rfl, by rw [ht]; exact hP, hD⟩, hS.F ht⟩) hS.2.2 dX2_init_11
def adX3 (h0 q1 : Nat) : Nat → Nat := fun k => match k with
  | 0 => h0
  | _ => q1
theorem pd_X3_init : yX3_init.cls ≠ "java/lang/invoke/MethodHandle" ∧ yX3_init.cls ≠ "java/lang/invoke/VarHandle" ∧ (parseMethodDescriptor yX3_init.desc).map (fun d => d.parameters.length) = some 0 := by decide +kernel
set_option maxHeartbeats 4000000 in
set_option maxRecDepth 100000 in
theorem c_X3_init (l : Launch) (sz : Nat) (D : va_G) (g : Nat → ClassId) (h0 : Nat) : CI (S := Nat → Nat) l yX3_init wsX3_init 1 12 1 700 sz D (KK D g) [.ref h0] [(h0, .inr (3, [.int 0, .int 0, .int 0, .null]))] (fun a => a 0 = h0) (fun a => wX3 g a false (0) (0) (fun _ => 0)) := by
  refine Met.ofW (cc := cX3_init) (maxL := 1) (ret := none) (by decide) rfl ?_
  intro p e s m args below meth c s₁ B hml hv
  obtain ⟨rfl, hsz, hP, hK, hD0⟩ := hv
  have hx := B.exec
  have hb := B.bytes
  have hr := B.returns
  have hts := atoms_spec (ws := wsX3_init) B.pre
  have hown : s.vm.findClass RX3 = some m.cls := findClass_of_methodNamed B.named
  have hlocks := B.notSynchronized
  have hin : meth.name = "<init>" := (name_of_methodNamed B.named B.method).1
  subst hsz
  have hD := hD0.self (sz := s.heap.size)
  obtain ⟨A, hAe⟩ : ∃ A, A = va_A [(h0, .inr (3, [.int 0, .int 0, .int 0, .null]))] s.heap.size := ⟨_, rfl⟩
  rw [← hAe] at hD
  have hA : ∀ q : Nat, s.heap.size ≤ q → A q := fun q h => by rw [hAe]; exact Or.inr h
  have hS : va_S A s.heap s.heap [] := va_S.rf
  replace hP : va_P D vwCl [(h0, .inr (3, [.int 0, .int 0, .int 0, .null]))] s.heap := hP
  have hh0 := (show ∀ w ∈ wsX30, w ∈ wsX3_init from by decide +kernel)
  have hh1 := hts (.arrayClass .long) (by decide +kernel)
  have hh2 := hts (.fieldLink RX3 9 "DecisionTableCompiler$Slot" "elements" "[J") (by decide +kernel)
  have hl := lv_entry ([.ref h0]) (n := 1) (Nat.le_of_ble_eq_true rfl)
  rw [lg_entry_eq]
  generalize (lg_sl ([.ref h0]) ++ List.replicate (1 - (lg_sl ([.ref h0])).length) Slot.unset).toArray = ls at hl ⊢
  replace hl : lv_has ls 1 [(0, .ref h0)] := hl
  refine lv_aload_n hx hb dX3_init_0 rfl (lv_at hl 0 rfl) ?_
  refine W.objInit hx hb hown (hts (.methodLink RX3 3 objectInit) (List.mem_of_getElem? (i := 1) rfl)) (hts (.instanceMethod objectInit) (List.mem_of_getElem? (i := 2) rfl)) (hts (.code objectInit ⟨#[0xb1]⟩ 1 none) (List.mem_of_getElem? (i := 3) rfl)) rfl (by rw [hml]; exact hl.1) rfl dX3_init_1 (Nat.le_of_ble_eq_true rfl) (Nat.le_of_ble_eq_true rfl) ?_
  refine W.eq (g2 := F0 m 4 ls []) rfl ?_
  refine lv_aload_n hx hb dX3_init_4 rfl (lv_at hl 0 rfl) ?_
  refine lv_sipush (v := 700) hx hb dX3_init_5 (by decide) ?_
  refine na_l hx hb hh1 hK hP hD hS hA (by decide) (N' := 700) (by decide) (Nat.le_of_ble_eq_true rfl) (Nat.le_of_ble_eq_true rfl) (Nat.le_of_ble_eq_true rfl) dX3_init_8 (fun q1 H hP hD hS => ?_)
  replace hP : va_P D vwCl [(h0, .inr (3, [.int 0, .int 0, .int 0, .null])), (q1, .inl (g 1, 700, .inr (.inl (fun _ => 0))))] H := hP
  replace hD : va_D A [(h0, .inr (3, [.int 0, .int 0, .int 0, .null])), (q1, .inl (g 1, 700, .inr (.inl (fun _ => 0))))] := hD
  refine va_putF (D := D) (ci := 3) (v := .ref q1) (ty := .array .long) (C := RX3) (T := TX3) (N := 4) hx hb hts hh0 tyX3 tyX3_ok nmX3 hown hK.1 hP hD hS 0 rfl rfl 3 (by decide) hh2 (fun _ h9 => h9) rfl hin rfl (by decide +kernel) rfl rfl (Nat.le_of_ble_eq_true rfl) dX3_init_10 (fun H locs hP hD hS => ?_)
  replace hP : va_P D vwCl [(h0, .inr (3, [.int 0, .int 0, .int 0, .ref q1])), (q1, .inl (g 1, 700, .inr (.inl (fun _ => 0))))] H := hP
  replace hD : va_D A [(h0, .inr (3, [.int 0, .int 0, .int 0, .ref q1])), (q1, .inl (g 1, 700, .inr (.inl (fun _ => 0))))] := hD
  refine W.widen (k := 1) (n := 700) (Nat.le_of_ble_eq_true rfl) (Nat.le_of_ble_eq_true rfl) ?_
  subst hAe
  exact W.vret hx hb hr (fun t ht hW => ⟨⟨adX3 h0 q1, rfl, rfl, by rw [ht]; exact hP, hD⟩, hS.F ht⟩) hS.2.2 dX3_init_13
def adX4 (h0 q1 q2 q3 q4 q5 q6 q7 : Nat) : Nat → Nat := fun k => match k with
  | 0 => h0
  | 1 => q1
  | 2 => q2
  | 3 => q3
  | 4 => q4
  | 5 => q5
  | 6 => q6
  | _ => q7
theorem pd_X4_init : yX4_init.cls ≠ "java/lang/invoke/MethodHandle" ∧ yX4_init.cls ≠ "java/lang/invoke/VarHandle" ∧ (parseMethodDescriptor yX4_init.desc).map (fun d => d.parameters.length) = some 0 := by decide +kernel
set_option maxHeartbeats 4000000 in
set_option maxRecDepth 100000 in
theorem c_X4_init (l : Launch) (sz : Nat) (D : va_G) (g : Nat → ClassId) (h0 : Nat) : CI (S := Nat → Nat) l yX4_init wsX4_init 1 12 7 112 sz D (KK D g) [.ref h0] [(h0, .inr (4, [.int 0, .int 0, .int 0, .int 0, .null, .null, .null, .null, .null, .null, .null]))] (fun a => a 0 = h0) (fun a => wX4 g a (0) (0) (0) (0) (fun _ => 0) (fun _ => 0) (fun _ => 0) (fun _ => 0) (fun _ => 0) (fun _ => 0) (fun _ => 0)) := by
  refine Met.ofW (cc := cX4_init) (maxL := 1) (ret := none) (by decide) rfl ?_
  intro p e s m args below meth c s₁ B hml hv
  obtain ⟨rfl, hsz, hP, hK, hD0⟩ := hv
  have hx := B.exec
  have hb := B.bytes
  have hr := B.returns
  have hts := atoms_spec (ws := wsX4_init) B.pre
  have hown : s.vm.findClass RX4 = some m.cls := findClass_of_methodNamed B.named
  have hlocks := B.notSynchronized
  have hin : meth.name = "<init>" := (name_of_methodNamed B.named B.method).1
  subst hsz
  have hD := hD0.self (sz := s.heap.size)
  obtain ⟨A, hAe⟩ : ∃ A, A = va_A [(h0, .inr (4, [.int 0, .int 0, .int 0, .int 0, .null, .null, .null, .null, .null, .null, .null]))] s.heap.size := ⟨_, rfl⟩
  rw [← hAe] at hD
  have hA : ∀ q : Nat, s.heap.size ≤ q → A q := fun q h => by rw [hAe]; exact Or.inr h
  have hS : va_S A s.heap s.heap [] := va_S.rf
  replace hP : va_P D vwCl [(h0, .inr (4, [.int 0, .int 0, .int 0, .int 0, .null, .null, .null, .null, .null, .null, .null]))] s.heap := hP
  have hh0 := (show ∀ w ∈ wsX40, w ∈ wsX4_init from by decide +kernel)
  have hh1 := hts (.arrayClass .int) (by decide +kernel)
  have hh2 := hts (.fieldLink RX4 9 "DecisionTableCompiler$Table" "sizes" "[I") (by decide +kernel)
  have hh3 := hts (.fieldLink RX4 15 "DecisionTableCompiler$Table" "strides" "[I") (by decide +kernel)
  have hh4 := hts (.fieldLink RX4 18 "DecisionTableCompiler$Table" "costs" "[I") (by decide +kernel)
  have hh5 := hts (.fieldLink RX4 21 "DecisionTableCompiler$Table" "weights" "[I") (by decide +kernel)
  have hh6 := hts (.fieldLink RX4 24 "DecisionTableCompiler$Table" "sets" "[I") (by decide +kernel)
  have hh7 := hts (.fieldLink RX4 27 "DecisionTableCompiler$Table" "actions" "[I") (by decide +kernel)
  have hh8 := hts (.fieldLink RX4 30 "DecisionTableCompiler$Table" "rulesWith" "[I") (by decide +kernel)
  have hl := lv_entry ([.ref h0]) (n := 1) (Nat.le_of_ble_eq_true rfl)
  rw [lg_entry_eq]
  generalize (lg_sl ([.ref h0]) ++ List.replicate (1 - (lg_sl ([.ref h0])).length) Slot.unset).toArray = ls at hl ⊢
  replace hl : lv_has ls 1 [(0, .ref h0)] := hl
  refine lv_aload_n hx hb dX4_init_0 rfl (lv_at hl 0 rfl) ?_
  refine W.objInit hx hb hown (hts (.methodLink RX4 3 objectInit) (List.mem_of_getElem? (i := 1) rfl)) (hts (.instanceMethod objectInit) (List.mem_of_getElem? (i := 2) rfl)) (hts (.code objectInit ⟨#[0xb1]⟩ 1 none) (List.mem_of_getElem? (i := 3) rfl)) rfl (by rw [hml]; exact hl.1) rfl dX4_init_1 (Nat.le_of_ble_eq_true rfl) (Nat.le_of_ble_eq_true rfl) ?_
  refine W.eq (g2 := F0 m 4 ls []) rfl ?_
  refine lv_aload_n hx hb dX4_init_4 rfl (lv_at hl 0 rfl) ?_
  refine lv_iconst (v := 4) hx hb dX4_init_5 (by decide) ?_
  refine na_i hx hb hh1 hK hP hD hS hA (by decide) (N' := 4) (by decide) (Nat.le_of_ble_eq_true rfl) (Nat.le_of_ble_eq_true rfl) (Nat.le_of_ble_eq_true rfl) dX4_init_6 (fun q1 H hP hD hS => ?_)
  replace hP : va_P D vwCl [(h0, .inr (4, [.int 0, .int 0, .int 0, .int 0, .null, .null, .null, .null, .null, .null, .null])), (q1, .inl (g 0, 4, .inl (fun _ => 0)))] H := hP
  replace hD : va_D A [(h0, .inr (4, [.int 0, .int 0, .int 0, .int 0, .null, .null, .null, .null, .null, .null, .null])), (q1, .inl (g 0, 4, .inl (fun _ => 0)))] := hD
  refine va_putF (D := D) (ci := 4) (v := .ref q1) (ty := .array .int) (C := RX4) (T := TX4) (N := 11) hx hb hts hh0 tyX4 tyX4_ok nmX4 hown hK.1 hP hD hS 0 rfl rfl 4 (by decide) hh2 (fun _ h9 => h9) rfl hin rfl (by decide +kernel) rfl rfl (Nat.le_of_ble_eq_true rfl) dX4_init_8 (fun H locs hP hD hS => ?_)
  replace hP : va_P D vwCl [(h0, .inr (4, [.int 0, .int 0, .int 0, .int 0, .ref q1, .null, .null, .null, .null, .null, .null])), (q1, .inl (g 0, 4, .inl (fun _ => 0)))] H := hP
  replace hD : va_D A [(h0, .inr (4, [.int 0, .int 0, .int 0, .int 0, .ref q1, .null, .null, .null, .null, .null, .null])), (q1, .inl (g 0, 4, .inl (fun _ => 0)))] := hD
  refine lv_aload_n hx hb dX4_init_11 rfl (lv_at hl 0 rfl) ?_
  refine lv_iconst (v := 4) hx hb dX4_init_12 (by decide) ?_
  refine na_i hx hb hh1 hK hP hD hS hA (by decide) (N' := 4) (by decide) (Nat.le_of_ble_eq_true rfl) (Nat.le_of_ble_eq_true rfl) (Nat.le_of_ble_eq_true rfl) dX4_init_13 (fun q2 H hP hD hS => ?_)
  replace hP : va_P D vwCl [(h0, .inr (4, [.int 0, .int 0, .int 0, .int 0, .ref q1, .null, .null, .null, .null, .null, .null])), (q1, .inl (g 0, 4, .inl (fun _ => 0))), (q2, .inl (g 0, 4, .inl (fun _ => 0)))] H := hP
  replace hD : va_D A [(h0, .inr (4, [.int 0, .int 0, .int 0, .int 0, .ref q1, .null, .null, .null, .null, .null, .null])), (q1, .inl (g 0, 4, .inl (fun _ => 0))), (q2, .inl (g 0, 4, .inl (fun _ => 0)))] := hD
  refine va_putF (D := D) (ci := 4) (v := .ref q2) (ty := .array .int) (C := RX4) (T := TX4) (N := 11) hx hb hts hh0 tyX4 tyX4_ok nmX4 hown hK.1 hP hD hS 0 rfl rfl 5 (by decide) hh3 (fun _ h9 => h9) rfl hin rfl (by decide +kernel) rfl rfl (Nat.le_of_ble_eq_true rfl) dX4_init_15 (fun H locs hP hD hS => ?_)
  replace hP : va_P D vwCl [(h0, .inr (4, [.int 0, .int 0, .int 0, .int 0, .ref q1, .ref q2, .null, .null, .null, .null, .null])), (q1, .inl (g 0, 4, .inl (fun _ => 0))), (q2, .inl (g 0, 4, .inl (fun _ => 0)))] H := hP
  replace hD : va_D A [(h0, .inr (4, [.int 0, .int 0, .int 0, .int 0, .ref q1, .ref q2, .null, .null, .null, .null, .null])), (q1, .inl (g 0, 4, .inl (fun _ => 0))), (q2, .inl (g 0, 4, .inl (fun _ => 0)))] := hD
  refine lv_aload_n hx hb dX4_init_18 rfl (lv_at hl 0 rfl) ?_
  refine lv_iconst (v := 4) hx hb dX4_init_19 (by decide) ?_
  refine na_i hx hb hh1 hK hP hD hS hA (by decide) (N' := 4) (by decide) (Nat.le_of_ble_eq_true rfl) (Nat.le_of_ble_eq_true rfl) (Nat.le_of_ble_eq_true rfl) dX4_init_20 (fun q3 H hP hD hS => ?_)
  replace hP : va_P D vwCl [(h0, .inr (4, [.int 0, .int 0, .int 0, .int 0, .ref q1, .ref q2, .null, .null, .null, .null, .null])), (q1, .inl (g 0, 4, .inl (fun _ => 0))), (q2, .inl (g 0, 4, .inl (fun _ => 0))), (q3, .inl (g 0, 4, .inl (fun _ => 0)))] H := hP
  replace hD : va_D A [(h0, .inr (4, [.int 0, .int 0, .int 0, .int 0, .ref q1, .ref q2, .null, .null, .null, .null, .null])), (q1, .inl (g 0, 4, .inl (fun _ => 0))), (q2, .inl (g 0, 4, .inl (fun _ => 0))), (q3, .inl (g 0, 4, .inl (fun _ => 0)))] := hD
  refine va_putF (D := D) (ci := 4) (v := .ref q3) (ty := .array .int) (C := RX4) (T := TX4) (N := 11) hx hb hts hh0 tyX4 tyX4_ok nmX4 hown hK.1 hP hD hS 0 rfl rfl 6 (by decide) hh4 (fun _ h9 => h9) rfl hin rfl (by decide +kernel) rfl rfl (Nat.le_of_ble_eq_true rfl) dX4_init_22 (fun H locs hP hD hS => ?_)
  replace hP : va_P D vwCl [(h0, .inr (4, [.int 0, .int 0, .int 0, .int 0, .ref q1, .ref q2, .ref q3, .null, .null, .null, .null])), (q1, .inl (g 0, 4, .inl (fun _ => 0))), (q2, .inl (g 0, 4, .inl (fun _ => 0))), (q3, .inl (g 0, 4, .inl (fun _ => 0)))] H := hP
  replace hD : va_D A [(h0, .inr (4, [.int 0, .int 0, .int 0, .int 0, .ref q1, .ref q2, .ref q3, .null, .null, .null, .null])), (q1, .inl (g 0, 4, .inl (fun _ => 0))), (q2, .inl (g 0, 4, .inl (fun _ => 0))), (q3, .inl (g 0, 4, .inl (fun _ => 0)))] := hD
  refine lv_aload_n hx hb dX4_init_25 rfl (lv_at hl 0 rfl) ?_
  refine lv_bipush (v := 20) hx hb dX4_init_26 (by decide) ?_
  refine na_i hx hb hh1 hK hP hD hS hA (by decide) (N' := 20) (by decide) (Nat.le_of_ble_eq_true rfl) (Nat.le_of_ble_eq_true rfl) (Nat.le_of_ble_eq_true rfl) dX4_init_28 (fun q4 H hP hD hS => ?_)
  replace hP : va_P D vwCl [(h0, .inr (4, [.int 0, .int 0, .int 0, .int 0, .ref q1, .ref q2, .ref q3, .null, .null, .null, .null])), (q1, .inl (g 0, 4, .inl (fun _ => 0))), (q2, .inl (g 0, 4, .inl (fun _ => 0))), (q3, .inl (g 0, 4, .inl (fun _ => 0))), (q4, .inl (g 0, 20, .inl (fun _ => 0)))] H := hP
  replace hD : va_D A [(h0, .inr (4, [.int 0, .int 0, .int 0, .int 0, .ref q1, .ref q2, .ref q3, .null, .null, .null, .null])), (q1, .inl (g 0, 4, .inl (fun _ => 0))), (q2, .inl (g 0, 4, .inl (fun _ => 0))), (q3, .inl (g 0, 4, .inl (fun _ => 0))), (q4, .inl (g 0, 20, .inl (fun _ => 0)))] := hD
  refine va_putF (D := D) (ci := 4) (v := .ref q4) (ty := .array .int) (C := RX4) (T := TX4) (N := 11) hx hb hts hh0 tyX4 tyX4_ok nmX4 hown hK.1 hP hD hS 0 rfl rfl 7 (by decide) hh5 (fun _ h9 => h9) rfl hin rfl (by decide +kernel) rfl rfl (Nat.le_of_ble_eq_true rfl) dX4_init_30 (fun H locs hP hD hS => ?_)
  replace hP : va_P D vwCl [(h0, .inr (4, [.int 0, .int 0, .int 0, .int 0, .ref q1, .ref q2, .ref q3, .ref q4, .null, .null, .null])), (q1, .inl (g 0, 4, .inl (fun _ => 0))), (q2, .inl (g 0, 4, .inl (fun _ => 0))), (q3, .inl (g 0, 4, .inl (fun _ => 0))), (q4, .inl (g 0, 20, .inl (fun _ => 0)))] H := hP
  replace hD : va_D A [(h0, .inr (4, [.int 0, .int 0, .int 0, .int 0, .ref q1, .ref q2, .ref q3, .ref q4, .null, .null, .null])), (q1, .inl (g 0, 4, .inl (fun _ => 0))), (q2, .inl (g 0, 4, .inl (fun _ => 0))), (q3, .inl (g 0, 4, .inl (fun _ => 0))), (q4, .inl (g 0, 20, .inl (fun _ => 0)))] := hD
  refine lv_aload_n hx hb dX4_init_33 rfl (lv_at hl 0 rfl) ?_
  refine lv_bipush (v := 48) hx hb dX4_init_34 (by decide) ?_
  refine na_i hx hb hh1 hK hP hD hS hA (by decide) (N' := 48) (by decide) (Nat.le_of_ble_eq_true rfl) (Nat.le_of_ble_eq_true rfl) (Nat.le_of_ble_eq_true rfl) dX4_init_36 (fun q5 H hP hD hS => ?_)
  replace hP : va_P D vwCl [(h0, .inr (4, [.int 0, .int 0, .int 0, .int 0, .ref q1, .ref q2, .ref q3, .ref q4, .null, .null, .null])), (q1, .inl (g 0, 4, .inl (fun _ => 0))), (q2, .inl (g 0, 4, .inl (fun _ => 0))), (q3, .inl (g 0, 4, .inl (fun _ => 0))), (q4, .inl (g 0, 20, .inl (fun _ => 0))), (q5, .inl (g 0, 48, .inl (fun _ => 0)))] H := hP
  replace hD : va_D A [(h0, .inr (4, [.int 0, .int 0, .int 0, .int 0, .ref q1, .ref q2, .ref q3, .ref q4, .null, .null, .null])), (q1, .inl (g 0, 4, .inl (fun _ => 0))), (q2, .inl (g 0, 4, .inl (fun _ => 0))), (q3, .inl (g 0, 4, .inl (fun _ => 0))), (q4, .inl (g 0, 20, .inl (fun _ => 0))), (q5, .inl (g 0, 48, .inl (fun _ => 0)))] := hD
  refine va_putF (D := D) (ci := 4) (v := .ref q5) (ty := .array .int) (C := RX4) (T := TX4) (N := 11) hx hb hts hh0 tyX4 tyX4_ok nmX4 hown hK.1 hP hD hS 0 rfl rfl 8 (by decide) hh6 (fun _ h9 => h9) rfl hin rfl (by decide +kernel) rfl rfl (Nat.le_of_ble_eq_true rfl) dX4_init_38 (fun H locs hP hD hS => ?_)
  replace hP : va_P D vwCl [(h0, .inr (4, [.int 0, .int 0, .int 0, .int 0, .ref q1, .ref q2, .ref q3, .ref q4, .ref q5, .null, .null])), (q1, .inl (g 0, 4, .inl (fun _ => 0))), (q2, .inl (g 0, 4, .inl (fun _ => 0))), (q3, .inl (g 0, 4, .inl (fun _ => 0))), (q4, .inl (g 0, 20, .inl (fun _ => 0))), (q5, .inl (g 0, 48, .inl (fun _ => 0)))] H := hP
  replace hD : va_D A [(h0, .inr (4, [.int 0, .int 0, .int 0, .int 0, .ref q1, .ref q2, .ref q3, .ref q4, .ref q5, .null, .null])), (q1, .inl (g 0, 4, .inl (fun _ => 0))), (q2, .inl (g 0, 4, .inl (fun _ => 0))), (q3, .inl (g 0, 4, .inl (fun _ => 0))), (q4, .inl (g 0, 20, .inl (fun _ => 0))), (q5, .inl (g 0, 48, .inl (fun _ => 0)))] := hD
  refine lv_aload_n hx hb dX4_init_41 rfl (lv_at hl 0 rfl) ?_
  refine lv_bipush (v := 12) hx hb dX4_init_42 (by decide) ?_
  refine na_i hx hb hh1 hK hP hD hS hA (by decide) (N' := 12) (by decide) (Nat.le_of_ble_eq_true rfl) (Nat.le_of_ble_eq_true rfl) (Nat.le_of_ble_eq_true rfl) dX4_init_44 (fun q6 H hP hD hS => ?_)
  replace hP : va_P D vwCl [(h0, .inr (4, [.int 0, .int 0, .int 0, .int 0, .ref q1, .ref q2, .ref q3, .ref q4, .ref q5, .null, .null])), (q1, .inl (g 0, 4, .inl (fun _ => 0))), (q2, .inl (g 0, 4, .inl (fun _ => 0))), (q3, .inl (g 0, 4, .inl (fun _ => 0))), (q4, .inl (g 0, 20, .inl (fun _ => 0))), (q5, .inl (g 0, 48, .inl (fun _ => 0))), (q6, .inl (g 0, 12, .inl (fun _ => 0)))] H := hP
  replace hD : va_D A [(h0, .inr (4, [.int 0, .int 0, .int 0, .int 0, .ref q1, .ref q2, .ref q3, .ref q4, .ref q5, .null, .null])), (q1, .inl (g 0, 4, .inl (fun _ => 0))), (q2, .inl (g 0, 4, .inl (fun _ => 0))), (q3, .inl (g 0, 4, .inl (fun _ => 0))), (q4, .inl (g 0, 20, .inl (fun _ => 0))), (q5, .inl (g 0, 48, .inl (fun _ => 0))), (q6, .inl (g 0, 12, .inl (fun _ => 0)))] := hD
  refine va_putF (D := D) (ci := 4) (v := .ref q6) (ty := .array .int) (C := RX4) (T := TX4) (N := 11) hx hb hts hh0 tyX4 tyX4_ok nmX4 hown hK.1 hP hD hS 0 rfl rfl 9 (by decide) hh7 (fun _ h9 => h9) rfl hin rfl (by decide +kernel) rfl rfl (Nat.le_of_ble_eq_true rfl) dX4_init_46 (fun H locs hP hD hS => ?_)
  replace hP : va_P D vwCl [(h0, .inr (4, [.int 0, .int 0, .int 0, .int 0, .ref q1, .ref q2, .ref q3, .ref q4, .ref q5, .ref q6, .null])), (q1, .inl (g 0, 4, .inl (fun _ => 0))), (q2, .inl (g 0, 4, .inl (fun _ => 0))), (q3, .inl (g 0, 4, .inl (fun _ => 0))), (q4, .inl (g 0, 20, .inl (fun _ => 0))), (q5, .inl (g 0, 48, .inl (fun _ => 0))), (q6, .inl (g 0, 12, .inl (fun _ => 0)))] H := hP
  replace hD : va_D A [(h0, .inr (4, [.int 0, .int 0, .int 0, .int 0, .ref q1, .ref q2, .ref q3, .ref q4, .ref q5, .ref q6, .null])), (q1, .inl (g 0, 4, .inl (fun _ => 0))), (q2, .inl (g 0, 4, .inl (fun _ => 0))), (q3, .inl (g 0, 4, .inl (fun _ => 0))), (q4, .inl (g 0, 20, .inl (fun _ => 0))), (q5, .inl (g 0, 48, .inl (fun _ => 0))), (q6, .inl (g 0, 12, .inl (fun _ => 0)))] := hD
  refine lv_aload_n hx hb dX4_init_49 rfl (lv_at hl 0 rfl) ?_
  refine lv_bipush (v := 20) hx hb dX4_init_50 (by decide) ?_
  refine na_i hx hb hh1 hK hP hD hS hA (by decide) (N' := 20) (by decide) (Nat.le_of_ble_eq_true rfl) (Nat.le_of_ble_eq_true rfl) (Nat.le_of_ble_eq_true rfl) dX4_init_52 (fun q7 H hP hD hS => ?_)
  replace hP : va_P D vwCl [(h0, .inr (4, [.int 0, .int 0, .int 0, .int 0, .ref q1, .ref q2, .ref q3, .ref q4, .ref q5, .ref q6, .null])), (q1, .inl (g 0, 4, .inl (fun _ => 0))), (q2, .inl (g 0, 4, .inl (fun _ => 0))), (q3, .inl (g 0, 4, .inl (fun _ => 0))), (q4, .inl (g 0, 20, .inl (fun _ => 0))), (q5, .inl (g 0, 48, .inl (fun _ => 0))), (q6, .inl (g 0, 12, .inl (fun _ => 0))), (q7, .inl (g 0, 20, .inl (fun _ => 0)))] H := hP
  replace hD : va_D A [(h0, .inr (4, [.int 0, .int 0, .int 0, .int 0, .ref q1, .ref q2, .ref q3, .ref q4, .ref q5, .ref q6, .null])), (q1, .inl (g 0, 4, .inl (fun _ => 0))), (q2, .inl (g 0, 4, .inl (fun _ => 0))), (q3, .inl (g 0, 4, .inl (fun _ => 0))), (q4, .inl (g 0, 20, .inl (fun _ => 0))), (q5, .inl (g 0, 48, .inl (fun _ => 0))), (q6, .inl (g 0, 12, .inl (fun _ => 0))), (q7, .inl (g 0, 20, .inl (fun _ => 0)))] := hD
  refine va_putF (D := D) (ci := 4) (v := .ref q7) (ty := .array .int) (C := RX4) (T := TX4) (N := 11) hx hb hts hh0 tyX4 tyX4_ok nmX4 hown hK.1 hP hD hS 0 rfl rfl 10 (by decide) hh8 (fun _ h9 => h9) rfl hin rfl (by decide +kernel) rfl rfl (Nat.le_of_ble_eq_true rfl) dX4_init_54 (fun H locs hP hD hS => ?_)
  replace hP : va_P D vwCl [(h0, .inr (4, [.int 0, .int 0, .int 0, .int 0, .ref q1, .ref q2, .ref q3, .ref q4, .ref q5, .ref q6, .ref q7])), (q1, .inl (g 0, 4, .inl (fun _ => 0))), (q2, .inl (g 0, 4, .inl (fun _ => 0))), (q3, .inl (g 0, 4, .inl (fun _ => 0))), (q4, .inl (g 0, 20, .inl (fun _ => 0))), (q5, .inl (g 0, 48, .inl (fun _ => 0))), (q6, .inl (g 0, 12, .inl (fun _ => 0))), (q7, .inl (g 0, 20, .inl (fun _ => 0)))] H := hP
  replace hD : va_D A [(h0, .inr (4, [.int 0, .int 0, .int 0, .int 0, .ref q1, .ref q2, .ref q3, .ref q4, .ref q5, .ref q6, .ref q7])), (q1, .inl (g 0, 4, .inl (fun _ => 0))), (q2, .inl (g 0, 4, .inl (fun _ => 0))), (q3, .inl (g 0, 4, .inl (fun _ => 0))), (q4, .inl (g 0, 20, .inl (fun _ => 0))), (q5, .inl (g 0, 48, .inl (fun _ => 0))), (q6, .inl (g 0, 12, .inl (fun _ => 0))), (q7, .inl (g 0, 20, .inl (fun _ => 0)))] := hD
  refine W.widen (k := 7) (n := 112) (Nat.le_of_ble_eq_true rfl) (Nat.le_of_ble_eq_true rfl) ?_
  subst hAe
  exact W.vret hx hb hr (fun t ht hW => ⟨⟨adX4 h0 q1 q2 q3 q4 q5 q6 q7, rfl, rfl, by rw [ht]; exact hP, hD⟩, hS.F ht⟩) hS.2.2 dX4_init_57
def adX5 (h0 q1 q2 q3 q4 q5 q6 q7 : Nat) : Nat → Nat := fun k => match k with
  | 0 => h0
  | 1 => q1
  | 2 => q2
  | 3 => q3
  | 4 => q4
  | 5 => q5
  | 6 => q6
  | _ => q7
theorem pd_X5_init : yX5_init.cls ≠ "java/lang/invoke/MethodHandle" ∧ yX5_init.cls ≠ "java/lang/invoke/VarHandle" ∧ (parseMethodDescriptor yX5_init.desc).map (fun d => d.parameters.length) = some 0 := by decide +kernel
set_option maxHeartbeats 4000000 in
set_option maxRecDepth 100000 in
theorem c_X5_init (l : Launch) (sz : Nat) (D : va_G) (g : Nat → ClassId) (h0 : Nat) : CI (S := Nat → Nat) l yX5_init wsX5_init 1 12 7 4083 sz D (KK D g) [.ref h0] [(h0, .inr (5, [.int 0, .int 0, .long 0, .int 0, .null, .null, .null, .null, .null, .null, .null]))] (fun a => a 0 = h0) (fun a => wX5 g a (0) (0) (0) (0) (fun _ => 0) (fun _ => 0) (fun _ => 0) (fun _ => 0) (fun _ => 0) (fun _ => 0) (fun _ => 0)) := by
  refine Met.ofW (cc := cX5_init) (maxL := 1) (ret := none) (by decide) rfl ?_
  intro p e s m args below meth c s₁ B hml hv
  obtain ⟨rfl, hsz, hP, hK, hD0⟩ := hv
  have hx := B.exec
  have hb := B.bytes
  have hr := B.returns
  have hts := atoms_spec (ws := wsX5_init) B.pre
  have hown : s.vm.findClass RX5 = some m.cls := findClass_of_methodNamed B.named
  have hlocks := B.notSynchronized
  have hin : meth.name = "<init>" := (name_of_methodNamed B.named B.method).1
  subst hsz
  have hD := hD0.self (sz := s.heap.size)
  obtain ⟨A, hAe⟩ : ∃ A, A = va_A [(h0, .inr (5, [.int 0, .int 0, .long 0, .int 0, .null, .null, .null, .null, .null, .null, .null]))] s.heap.size := ⟨_, rfl⟩
  rw [← hAe] at hD
  have hA : ∀ q : Nat, s.heap.size ≤ q → A q := fun q h => by rw [hAe]; exact Or.inr h
  have hS : va_S A s.heap s.heap [] := va_S.rf
  replace hP : va_P D vwCl [(h0, .inr (5, [.int 0, .int 0, .long 0, .int 0, .null, .null, .null, .null, .null, .null, .null]))] s.heap := hP
  have hh0 := (show ∀ w ∈ wsX50, w ∈ wsX5_init from by decide +kernel)
  have hh1 := hts (.arrayClass .int) (by decide +kernel)
  have hh2 := hts (.fieldLink RX5 9 "DecisionTableCompiler$Tree" "tests" "[I") (by decide +kernel)
  have hh3 := hts (.fieldLink RX5 15 "DecisionTableCompiler$Tree" "actions" "[I") (by decide +kernel)
  have hh4 := hts (.fieldLink RX5 18 "DecisionTableCompiler$Tree" "extents" "[I") (by decide +kernel)
  have hh5 := hts (.fieldLink RX5 21 "DecisionTableCompiler$Tree" "depths" "[I") (by decide +kernel)
  have hh6 := hts (.fieldLink RX5 24 "DecisionTableCompiler$Tree" "classes" "[I") (by decide +kernel)
  have hh7 := hts (.fieldLink RX5 27 "DecisionTableCompiler$Tree" "lowest" "[I") (by decide +kernel)
  have hh8 := hts (.fieldLink RX5 30 "DecisionTableCompiler$Tree" "leafClasses" "[I") (by decide +kernel)
  have hl := lv_entry ([.ref h0]) (n := 1) (Nat.le_of_ble_eq_true rfl)
  rw [lg_entry_eq]
  generalize (lg_sl ([.ref h0]) ++ List.replicate (1 - (lg_sl ([.ref h0])).length) Slot.unset).toArray = ls at hl ⊢
  replace hl : lv_has ls 1 [(0, .ref h0)] := hl
  refine lv_aload_n hx hb dX5_init_0 rfl (lv_at hl 0 rfl) ?_
  refine W.objInit hx hb hown (hts (.methodLink RX5 3 objectInit) (List.mem_of_getElem? (i := 1) rfl)) (hts (.instanceMethod objectInit) (List.mem_of_getElem? (i := 2) rfl)) (hts (.code objectInit ⟨#[0xb1]⟩ 1 none) (List.mem_of_getElem? (i := 3) rfl)) rfl (by rw [hml]; exact hl.1) rfl dX5_init_1 (Nat.le_of_ble_eq_true rfl) (Nat.le_of_ble_eq_true rfl) ?_
  refine W.eq (g2 := F0 m 4 ls []) rfl ?_
  refine lv_aload_n hx hb dX5_init_4 rfl (lv_at hl 0 rfl) ?_
  refine lv_sipush (v := 781) hx hb dX5_init_5 (by decide) ?_
  refine na_i hx hb hh1 hK hP hD hS hA (by decide) (N' := 781) (by decide) (Nat.le_of_ble_eq_true rfl) (Nat.le_of_ble_eq_true rfl) (Nat.le_of_ble_eq_true rfl) dX5_init_8 (fun q1 H hP hD hS => ?_)
  replace hP : va_P D vwCl [(h0, .inr (5, [.int 0, .int 0, .long 0, .int 0, .null, .null, .null, .null, .null, .null, .null])), (q1, .inl (g 0, 781, .inl (fun _ => 0)))] H := hP
  replace hD : va_D A [(h0, .inr (5, [.int 0, .int 0, .long 0, .int 0, .null, .null, .null, .null, .null, .null, .null])), (q1, .inl (g 0, 781, .inl (fun _ => 0)))] := hD
  refine va_putF (D := D) (ci := 5) (v := .ref q1) (ty := .array .int) (C := RX5) (T := TX5) (N := 11) hx hb hts hh0 tyX5 tyX5_ok nmX5 hown hK.1 hP hD hS 0 rfl rfl 4 (by decide) hh2 (fun _ h9 => h9) rfl hin rfl (by decide +kernel) rfl rfl (Nat.le_of_ble_eq_true rfl) dX5_init_10 (fun H locs hP hD hS => ?_)
  replace hP : va_P D vwCl [(h0, .inr (5, [.int 0, .int 0, .long 0, .int 0, .ref q1, .null, .null, .null, .null, .null, .null])), (q1, .inl (g 0, 781, .inl (fun _ => 0)))] H := hP
  replace hD : va_D A [(h0, .inr (5, [.int 0, .int 0, .long 0, .int 0, .ref q1, .null, .null, .null, .null, .null, .null])), (q1, .inl (g 0, 781, .inl (fun _ => 0)))] := hD
  refine lv_aload_n hx hb dX5_init_13 rfl (lv_at hl 0 rfl) ?_
  refine lv_sipush (v := 781) hx hb dX5_init_14 (by decide) ?_
  refine na_i hx hb hh1 hK hP hD hS hA (by decide) (N' := 781) (by decide) (Nat.le_of_ble_eq_true rfl) (Nat.le_of_ble_eq_true rfl) (Nat.le_of_ble_eq_true rfl) dX5_init_17 (fun q2 H hP hD hS => ?_)
  replace hP : va_P D vwCl [(h0, .inr (5, [.int 0, .int 0, .long 0, .int 0, .ref q1, .null, .null, .null, .null, .null, .null])), (q1, .inl (g 0, 781, .inl (fun _ => 0))), (q2, .inl (g 0, 781, .inl (fun _ => 0)))] H := hP
  replace hD : va_D A [(h0, .inr (5, [.int 0, .int 0, .long 0, .int 0, .ref q1, .null, .null, .null, .null, .null, .null])), (q1, .inl (g 0, 781, .inl (fun _ => 0))), (q2, .inl (g 0, 781, .inl (fun _ => 0)))] := hD
  refine va_putF (D := D) (ci := 5) (v := .ref q2) (ty := .array .int) (C := RX5) (T := TX5) (N := 11) hx hb hts hh0 tyX5 tyX5_ok nmX5 hown hK.1 hP hD hS 0 rfl rfl 5 (by decide) hh3 (fun _ h9 => h9) rfl hin rfl (by decide +kernel) rfl rfl (Nat.le_of_ble_eq_true rfl) dX5_init_19 (fun H locs hP hD hS => ?_)
  replace hP : va_P D vwCl [(h0, .inr (5, [.int 0, .int 0, .long 0, .int 0, .ref q1, .ref q2, .null, .null, .null, .null, .null])), (q1, .inl (g 0, 781, .inl (fun _ => 0))), (q2, .inl (g 0, 781, .inl (fun _ => 0)))] H := hP
  replace hD : va_D A [(h0, .inr (5, [.int 0, .int 0, .long 0, .int 0, .ref q1, .ref q2, .null, .null, .null, .null, .null])), (q1, .inl (g 0, 781, .inl (fun _ => 0))), (q2, .inl (g 0, 781, .inl (fun _ => 0)))] := hD
  refine lv_aload_n hx hb dX5_init_22 rfl (lv_at hl 0 rfl) ?_
  refine lv_sipush (v := 781) hx hb dX5_init_23 (by decide) ?_
  refine na_i hx hb hh1 hK hP hD hS hA (by decide) (N' := 781) (by decide) (Nat.le_of_ble_eq_true rfl) (Nat.le_of_ble_eq_true rfl) (Nat.le_of_ble_eq_true rfl) dX5_init_26 (fun q3 H hP hD hS => ?_)
  replace hP : va_P D vwCl [(h0, .inr (5, [.int 0, .int 0, .long 0, .int 0, .ref q1, .ref q2, .null, .null, .null, .null, .null])), (q1, .inl (g 0, 781, .inl (fun _ => 0))), (q2, .inl (g 0, 781, .inl (fun _ => 0))), (q3, .inl (g 0, 781, .inl (fun _ => 0)))] H := hP
  replace hD : va_D A [(h0, .inr (5, [.int 0, .int 0, .long 0, .int 0, .ref q1, .ref q2, .null, .null, .null, .null, .null])), (q1, .inl (g 0, 781, .inl (fun _ => 0))), (q2, .inl (g 0, 781, .inl (fun _ => 0))), (q3, .inl (g 0, 781, .inl (fun _ => 0)))] := hD
  refine va_putF (D := D) (ci := 5) (v := .ref q3) (ty := .array .int) (C := RX5) (T := TX5) (N := 11) hx hb hts hh0 tyX5 tyX5_ok nmX5 hown hK.1 hP hD hS 0 rfl rfl 6 (by decide) hh4 (fun _ h9 => h9) rfl hin rfl (by decide +kernel) rfl rfl (Nat.le_of_ble_eq_true rfl) dX5_init_28 (fun H locs hP hD hS => ?_)
  replace hP : va_P D vwCl [(h0, .inr (5, [.int 0, .int 0, .long 0, .int 0, .ref q1, .ref q2, .ref q3, .null, .null, .null, .null])), (q1, .inl (g 0, 781, .inl (fun _ => 0))), (q2, .inl (g 0, 781, .inl (fun _ => 0))), (q3, .inl (g 0, 781, .inl (fun _ => 0)))] H := hP
  replace hD : va_D A [(h0, .inr (5, [.int 0, .int 0, .long 0, .int 0, .ref q1, .ref q2, .ref q3, .null, .null, .null, .null])), (q1, .inl (g 0, 781, .inl (fun _ => 0))), (q2, .inl (g 0, 781, .inl (fun _ => 0))), (q3, .inl (g 0, 781, .inl (fun _ => 0)))] := hD
  refine lv_aload_n hx hb dX5_init_31 rfl (lv_at hl 0 rfl) ?_
  refine lv_sipush (v := 781) hx hb dX5_init_32 (by decide) ?_
  refine na_i hx hb hh1 hK hP hD hS hA (by decide) (N' := 781) (by decide) (Nat.le_of_ble_eq_true rfl) (Nat.le_of_ble_eq_true rfl) (Nat.le_of_ble_eq_true rfl) dX5_init_35 (fun q4 H hP hD hS => ?_)
  replace hP : va_P D vwCl [(h0, .inr (5, [.int 0, .int 0, .long 0, .int 0, .ref q1, .ref q2, .ref q3, .null, .null, .null, .null])), (q1, .inl (g 0, 781, .inl (fun _ => 0))), (q2, .inl (g 0, 781, .inl (fun _ => 0))), (q3, .inl (g 0, 781, .inl (fun _ => 0))), (q4, .inl (g 0, 781, .inl (fun _ => 0)))] H := hP
  replace hD : va_D A [(h0, .inr (5, [.int 0, .int 0, .long 0, .int 0, .ref q1, .ref q2, .ref q3, .null, .null, .null, .null])), (q1, .inl (g 0, 781, .inl (fun _ => 0))), (q2, .inl (g 0, 781, .inl (fun _ => 0))), (q3, .inl (g 0, 781, .inl (fun _ => 0))), (q4, .inl (g 0, 781, .inl (fun _ => 0)))] := hD
  refine va_putF (D := D) (ci := 5) (v := .ref q4) (ty := .array .int) (C := RX5) (T := TX5) (N := 11) hx hb hts hh0 tyX5 tyX5_ok nmX5 hown hK.1 hP hD hS 0 rfl rfl 7 (by decide) hh5 (fun _ h9 => h9) rfl hin rfl (by decide +kernel) rfl rfl (Nat.le_of_ble_eq_true rfl) dX5_init_37 (fun H locs hP hD hS => ?_)
  replace hP : va_P D vwCl [(h0, .inr (5, [.int 0, .int 0, .long 0, .int 0, .ref q1, .ref q2, .ref q3, .ref q4, .null, .null, .null])), (q1, .inl (g 0, 781, .inl (fun _ => 0))), (q2, .inl (g 0, 781, .inl (fun _ => 0))), (q3, .inl (g 0, 781, .inl (fun _ => 0))), (q4, .inl (g 0, 781, .inl (fun _ => 0)))] H := hP
  replace hD : va_D A [(h0, .inr (5, [.int 0, .int 0, .long 0, .int 0, .ref q1, .ref q2, .ref q3, .ref q4, .null, .null, .null])), (q1, .inl (g 0, 781, .inl (fun _ => 0))), (q2, .inl (g 0, 781, .inl (fun _ => 0))), (q3, .inl (g 0, 781, .inl (fun _ => 0))), (q4, .inl (g 0, 781, .inl (fun _ => 0)))] := hD
  refine lv_aload_n hx hb dX5_init_40 rfl (lv_at hl 0 rfl) ?_
  refine lv_sipush (v := 781) hx hb dX5_init_41 (by decide) ?_
  refine na_i hx hb hh1 hK hP hD hS hA (by decide) (N' := 781) (by decide) (Nat.le_of_ble_eq_true rfl) (Nat.le_of_ble_eq_true rfl) (Nat.le_of_ble_eq_true rfl) dX5_init_44 (fun q5 H hP hD hS => ?_)
  replace hP : va_P D vwCl [(h0, .inr (5, [.int 0, .int 0, .long 0, .int 0, .ref q1, .ref q2, .ref q3, .ref q4, .null, .null, .null])), (q1, .inl (g 0, 781, .inl (fun _ => 0))), (q2, .inl (g 0, 781, .inl (fun _ => 0))), (q3, .inl (g 0, 781, .inl (fun _ => 0))), (q4, .inl (g 0, 781, .inl (fun _ => 0))), (q5, .inl (g 0, 781, .inl (fun _ => 0)))] H := hP
  replace hD : va_D A [(h0, .inr (5, [.int 0, .int 0, .long 0, .int 0, .ref q1, .ref q2, .ref q3, .ref q4, .null, .null, .null])), (q1, .inl (g 0, 781, .inl (fun _ => 0))), (q2, .inl (g 0, 781, .inl (fun _ => 0))), (q3, .inl (g 0, 781, .inl (fun _ => 0))), (q4, .inl (g 0, 781, .inl (fun _ => 0))), (q5, .inl (g 0, 781, .inl (fun _ => 0)))] := hD
  refine va_putF (D := D) (ci := 5) (v := .ref q5) (ty := .array .int) (C := RX5) (T := TX5) (N := 11) hx hb hts hh0 tyX5 tyX5_ok nmX5 hown hK.1 hP hD hS 0 rfl rfl 8 (by decide) hh6 (fun _ h9 => h9) rfl hin rfl (by decide +kernel) rfl rfl (Nat.le_of_ble_eq_true rfl) dX5_init_46 (fun H locs hP hD hS => ?_)
  replace hP : va_P D vwCl [(h0, .inr (5, [.int 0, .int 0, .long 0, .int 0, .ref q1, .ref q2, .ref q3, .ref q4, .ref q5, .null, .null])), (q1, .inl (g 0, 781, .inl (fun _ => 0))), (q2, .inl (g 0, 781, .inl (fun _ => 0))), (q3, .inl (g 0, 781, .inl (fun _ => 0))), (q4, .inl (g 0, 781, .inl (fun _ => 0))), (q5, .inl (g 0, 781, .inl (fun _ => 0)))] H := hP
  replace hD : va_D A [(h0, .inr (5, [.int 0, .int 0, .long 0, .int 0, .ref q1, .ref q2, .ref q3, .ref q4, .ref q5, .null, .null])), (q1, .inl (g 0, 781, .inl (fun _ => 0))), (q2, .inl (g 0, 781, .inl (fun _ => 0))), (q3, .inl (g 0, 781, .inl (fun _ => 0))), (q4, .inl (g 0, 781, .inl (fun _ => 0))), (q5, .inl (g 0, 781, .inl (fun _ => 0)))] := hD
  refine lv_aload_n hx hb dX5_init_49 rfl (lv_at hl 0 rfl) ?_
  refine lv_sipush (v := 167) hx hb dX5_init_50 (by decide) ?_
  refine na_i hx hb hh1 hK hP hD hS hA (by decide) (N' := 167) (by decide) (Nat.le_of_ble_eq_true rfl) (Nat.le_of_ble_eq_true rfl) (Nat.le_of_ble_eq_true rfl) dX5_init_53 (fun q6 H hP hD hS => ?_)
  replace hP : va_P D vwCl [(h0, .inr (5, [.int 0, .int 0, .long 0, .int 0, .ref q1, .ref q2, .ref q3, .ref q4, .ref q5, .null, .null])), (q1, .inl (g 0, 781, .inl (fun _ => 0))), (q2, .inl (g 0, 781, .inl (fun _ => 0))), (q3, .inl (g 0, 781, .inl (fun _ => 0))), (q4, .inl (g 0, 781, .inl (fun _ => 0))), (q5, .inl (g 0, 781, .inl (fun _ => 0))), (q6, .inl (g 0, 167, .inl (fun _ => 0)))] H := hP
  replace hD : va_D A [(h0, .inr (5, [.int 0, .int 0, .long 0, .int 0, .ref q1, .ref q2, .ref q3, .ref q4, .ref q5, .null, .null])), (q1, .inl (g 0, 781, .inl (fun _ => 0))), (q2, .inl (g 0, 781, .inl (fun _ => 0))), (q3, .inl (g 0, 781, .inl (fun _ => 0))), (q4, .inl (g 0, 781, .inl (fun _ => 0))), (q5, .inl (g 0, 781, .inl (fun _ => 0))), (q6, .inl (g 0, 167, .inl (fun _ => 0)))] := hD
  refine va_putF (D := D) (ci := 5) (v := .ref q6) (ty := .array .int) (C := RX5) (T := TX5) (N := 11) hx hb hts hh0 tyX5 tyX5_ok nmX5 hown hK.1 hP hD hS 0 rfl rfl 9 (by decide) hh7 (fun _ h9 => h9) rfl hin rfl (by decide +kernel) rfl rfl (Nat.le_of_ble_eq_true rfl) dX5_init_55 (fun H locs hP hD hS => ?_)
  replace hP : va_P D vwCl [(h0, .inr (5, [.int 0, .int 0, .long 0, .int 0, .ref q1, .ref q2, .ref q3, .ref q4, .ref q5, .ref q6, .null])), (q1, .inl (g 0, 781, .inl (fun _ => 0))), (q2, .inl (g 0, 781, .inl (fun _ => 0))), (q3, .inl (g 0, 781, .inl (fun _ => 0))), (q4, .inl (g 0, 781, .inl (fun _ => 0))), (q5, .inl (g 0, 781, .inl (fun _ => 0))), (q6, .inl (g 0, 167, .inl (fun _ => 0)))] H := hP
  replace hD : va_D A [(h0, .inr (5, [.int 0, .int 0, .long 0, .int 0, .ref q1, .ref q2, .ref q3, .ref q4, .ref q5, .ref q6, .null])), (q1, .inl (g 0, 781, .inl (fun _ => 0))), (q2, .inl (g 0, 781, .inl (fun _ => 0))), (q3, .inl (g 0, 781, .inl (fun _ => 0))), (q4, .inl (g 0, 781, .inl (fun _ => 0))), (q5, .inl (g 0, 781, .inl (fun _ => 0))), (q6, .inl (g 0, 167, .inl (fun _ => 0)))] := hD
  refine lv_aload_n hx hb dX5_init_58 rfl (lv_at hl 0 rfl) ?_
  refine lv_bipush (v := 11) hx hb dX5_init_59 (by decide) ?_
  refine na_i hx hb hh1 hK hP hD hS hA (by decide) (N' := 11) (by decide) (Nat.le_of_ble_eq_true rfl) (Nat.le_of_ble_eq_true rfl) (Nat.le_of_ble_eq_true rfl) dX5_init_61 (fun q7 H hP hD hS => ?_)
  replace hP : va_P D vwCl [(h0, .inr (5, [.int 0, .int 0, .long 0, .int 0, .ref q1, .ref q2, .ref q3, .ref q4, .ref q5, .ref q6, .null])), (q1, .inl (g 0, 781, .inl (fun _ => 0))), (q2, .inl (g 0, 781, .inl (fun _ => 0))), (q3, .inl (g 0, 781, .inl (fun _ => 0))), (q4, .inl (g 0, 781, .inl (fun _ => 0))), (q5, .inl (g 0, 781, .inl (fun _ => 0))), (q6, .inl (g 0, 167, .inl (fun _ => 0))), (q7, .inl (g 0, 11, .inl (fun _ => 0)))] H := hP
  replace hD : va_D A [(h0, .inr (5, [.int 0, .int 0, .long 0, .int 0, .ref q1, .ref q2, .ref q3, .ref q4, .ref q5, .ref q6, .null])), (q1, .inl (g 0, 781, .inl (fun _ => 0))), (q2, .inl (g 0, 781, .inl (fun _ => 0))), (q3, .inl (g 0, 781, .inl (fun _ => 0))), (q4, .inl (g 0, 781, .inl (fun _ => 0))), (q5, .inl (g 0, 781, .inl (fun _ => 0))), (q6, .inl (g 0, 167, .inl (fun _ => 0))), (q7, .inl (g 0, 11, .inl (fun _ => 0)))] := hD
  refine va_putF (D := D) (ci := 5) (v := .ref q7) (ty := .array .int) (C := RX5) (T := TX5) (N := 11) hx hb hts hh0 tyX5 tyX5_ok nmX5 hown hK.1 hP hD hS 0 rfl rfl 10 (by decide) hh8 (fun _ h9 => h9) rfl hin rfl (by decide +kernel) rfl rfl (Nat.le_of_ble_eq_true rfl) dX5_init_63 (fun H locs hP hD hS => ?_)
  replace hP : va_P D vwCl [(h0, .inr (5, [.int 0, .int 0, .long 0, .int 0, .ref q1, .ref q2, .ref q3, .ref q4, .ref q5, .ref q6, .ref q7])), (q1, .inl (g 0, 781, .inl (fun _ => 0))), (q2, .inl (g 0, 781, .inl (fun _ => 0))), (q3, .inl (g 0, 781, .inl (fun _ => 0))), (q4, .inl (g 0, 781, .inl (fun _ => 0))), (q5, .inl (g 0, 781, .inl (fun _ => 0))), (q6, .inl (g 0, 167, .inl (fun _ => 0))), (q7, .inl (g 0, 11, .inl (fun _ => 0)))] H := hP
  replace hD : va_D A [(h0, .inr (5, [.int 0, .int 0, .long 0, .int 0, .ref q1, .ref q2, .ref q3, .ref q4, .ref q5, .ref q6, .ref q7])), (q1, .inl (g 0, 781, .inl (fun _ => 0))), (q2, .inl (g 0, 781, .inl (fun _ => 0))), (q3, .inl (g 0, 781, .inl (fun _ => 0))), (q4, .inl (g 0, 781, .inl (fun _ => 0))), (q5, .inl (g 0, 781, .inl (fun _ => 0))), (q6, .inl (g 0, 167, .inl (fun _ => 0))), (q7, .inl (g 0, 11, .inl (fun _ => 0)))] := hD
  refine W.widen (k := 7) (n := 4083) (Nat.le_of_ble_eq_true rfl) (Nat.le_of_ble_eq_true rfl) ?_
  subst hAe
  exact W.vret hx hb hr (fun t ht hW => ⟨⟨adX5 h0 q1 q2 q3 q4 q5 q6 q7, rfl, rfl, by rw [ht]; exact hP, hD⟩, hS.F ht⟩) hS.2.2 dX5_init_66
