theorem pd_J7_fill_53178 : yJ7_fill_53178.cls ≠ "java/lang/invoke/MethodHandle" ∧ yJ7_fill_53178.cls ≠ "java/lang/invoke/VarHandle" ∧ (parseMethodDescriptor yJ7_fill_53178.desc).map (fun d => d.parameters.length) = some 2 := by decide +kernel
theorem fil_i {i : Nat} {v : Int32} {f : Nat → Int32} : upd (fil i v f) i v = fil (i + 1) v f := by
  funext j
  unfold fil upd
  by_cases h : j = i
  · rw [if_pos h, if_pos (by omega)]
  · rw [if_neg h]
    show (if j < i then v else f j) = _
    by_cases h2 : j < i
    · rw [if_pos h2, if_pos (by omega)]
    · rw [if_neg h2, if_neg (by omega)]
set_option maxHeartbeats 4000000 in
set_option maxRecDepth 100000 in
theorem c_J7_fill_53178 (l : Launch) (sz : Nat) (D : va_G) (g : Nat → ClassId) (a n : Nat) (f : Nat → Int32) (v : Int32) (hn : n < 2147483648) : CM l yJ7_fill_53178 wsJ7_fill_53178 0 0 sz D g [.ref a, .int v] [(a, .inl (g 0, n, .inl f))] (QMv D [(a, .inl (g 0, n, .inl f))] sz [(a, .inl (g 0, n, .inl (fil n v f)))]) := by
  refine Met.ofW (cc := cJ7_fill_53178) (maxL := 4) (ret := none) (by decide) rfl ?_
  intro p e s m args below meth c s₁ B hml hv
  obtain ⟨rfl, hsz, hP, hK, hD0⟩ := hv
  have hx := B.exec
  have hb := B.bytes
  have hr := B.returns
  have hlocks := B.notSynchronized
  subst hsz
  have hD := hD0.self (sz := s.heap.size)
  have hS : va_S (va_A [(a, .inl (g 0, n, .inl f))] s.heap.size) s.heap s.heap [] := va_S.rf
  have hl := lv_entry ([.ref a, .int v]) (n := 4) (Nat.le_of_ble_eq_true rfl)
  rw [lg_entry_eq]
  generalize (lg_sl ([.ref a, .int v]) ++ List.replicate (4 - (lg_sl ([.ref a, .int v])).length) Slot.unset).toArray = ls at hl ⊢
  replace hl : lv_has ls 4 [(0, .ref a), (1, .int v)] := hl
  have lp : ∀ (k i : Nat), i + k = n → ∀ (H : Heap) (locs : List Loc), va_P D vwCl [(a, .inl (g 0, n, .inl (fil i v f)))] H → va_D (va_A [(a, .inl (g 0, n, .inl f))] s.heap.size) [(a, .inl (g 0, n, .inl (fil i v f)))] → va_S (va_A [(a, .inl (g 0, n, .inl f))] s.heap.size) s.heap H locs → ∀ ls : Array Slot, lv_has ls 4 [(3, .int (nI n)), (2, .int (nI i)), (0, .ref a), (1, .int v)] → W p l e (headSpec wsJ7_fill_53178 ({ frames := 0, cells := 0, slots := 0, locals := 0 })).room s m ([.ref a, .int v] : List Value).toArray below meth c H locs 0 0 (MQ below (QMv D [(a, .inl (g 0, n, .inl f))] s.heap.size [(a, .inl (g 0, n, .inl (fil n v f)))]) ([.ref a, .int v] : List Value).toArray s 0 0 (va_A [(a, .inl (g 0, n, .inl f))] s.heap.size)) (F0 m 5 ls []) := by
    intro k
    induction k with
    | zero =>
      intro i hi H locs hP hD hS ls hl
      obtain rfl : i = n := by omega
      refine lv_iload_n hx hb dJ7_fill_53178_5 rfl (lv_at hl 1 rfl) ?_
      refine lv_iload_n hx hb dJ7_fill_53178_6 rfl (lv_at hl 0 rfl) ?_
      refine lv_icmp_ge (tgt := 20) hx hb dJ7_fill_53178_7 (by decide) (fun _ => ?_) (fun q => absurd (Int32.le_refl _) q)
      exact W.vret hx hb hr (fun t ht hW => ⟨⟨(), rfl, trivial, by rw [ht]; exact hP, hD⟩, hS.F ht⟩) hS.2.2 dJ7_fill_53178_20
    | succ k ih =>
      intro i hi H locs hP hD hS ls hl
      have hin : i < n := by omega
      refine lv_iload_n hx hb dJ7_fill_53178_5 rfl (lv_at hl 1 rfl) ?_
      refine lv_iload_n hx hb dJ7_fill_53178_6 rfl (lv_at hl 0 rfl) ?_
      refine lv_icmp_ge (tgt := 20) hx hb dJ7_fill_53178_7 (by decide) (fun q => absurd q (nI_ge hin hn)) (fun _ => ?_)
      refine lv_aload_n hx hb dJ7_fill_53178_10 rfl (lv_at hl 2 rfl) ?_
      refine lv_iload_n hx hb dJ7_fill_53178_11 rfl (lv_at hl 1 rfl) ?_
      refine lv_iload_n hx hb dJ7_fill_53178_12 rfl (lv_at hl 3 rfl) ?_
      refine va_iast hx hb hK.1 hP hD hS 0 0 rfl rfl (vp_in_nI hin hn) dJ7_fill_53178_13 (fun H locs hP hD hS => ?_)
      rw [nI_clamp (Nat.lt_trans hin hn), fil_i] at hP hD
      refine lv_iinc (v := nI (i + 1)) (lv' := [(2, .int (nI (i + 1))), (3, .int (nI n)), (0, .ref a), (1, .int v)]) hx hb dJ7_fill_53178_14 hl (k := 1) rfl (nI_1 i) (by decide) rfl (fun ls hl => ?_)
      refine lv_goto (tgt := 5) hx hb dJ7_fill_53178_17 (by decide) ?_
      exact ih (i + 1) (by omega) H locs hP hD hS ls (lv_sub hl [1, 0, 2, 3] rfl)
  refine lv_iconst (v := 0) hx hb dJ7_fill_53178_0 (by decide) ?_
  refine lv_istore_n (lv' := [(2, .int (nI 0)), (0, .ref a), (1, .int v)]) hx hb dJ7_fill_53178_1 rfl hl (by decide) rfl (fun ls hl => ?_)
  refine lv_aload_n hx hb dJ7_fill_53178_2 rfl (lv_at hl 1 rfl) ?_
  refine va_alen (v := nI n) hx hb hK.1 hP 0 0 rfl rfl rfl dJ7_fill_53178_3 ?_
  refine lv_istore_n (lv' := [(3, .int (nI n)), (2, .int (nI 0)), (0, .ref a), (1, .int v)]) hx hb dJ7_fill_53178_4 rfl hl (by decide) rfl (fun ls hl => ?_)
  have e0 : f = fil 0 v f := by
    funext j
    unfold fil
    rw [if_neg (Nat.not_lt_zero j)]
  exact lp n 0 (Nat.zero_add n) s.heap [] (by rw [← e0]; exact hP) (by rw [← e0]; exact hD) hS ls (lv_sub hl [0, 1, 2, 3] rfl)
theorem pd_J7_fill_d0a16 : yJ7_fill_d0a16.cls ≠ "java/lang/invoke/MethodHandle" ∧ yJ7_fill_d0a16.cls ≠ "java/lang/invoke/VarHandle" ∧ (parseMethodDescriptor yJ7_fill_d0a16.desc).map (fun d => d.parameters.length) = some 2 := by decide +kernel
theorem fil_l {i : Nat} {v : Int64} {f : Nat → Int64} : vp_updL (fil i v f) i v = fil (i + 1) v f := by
  funext j
  unfold fil vp_updL
  by_cases h : j = i
  · rw [if_pos h, if_pos (by omega)]
  · rw [if_neg h]
    show (if j < i then v else f j) = _
    by_cases h2 : j < i
    · rw [if_pos h2, if_pos (by omega)]
    · rw [if_neg h2, if_neg (by omega)]
set_option maxHeartbeats 4000000 in
set_option maxRecDepth 100000 in
theorem c_J7_fill_d0a16 (l : Launch) (sz : Nat) (D : va_G) (g : Nat → ClassId) (a n : Nat) (f : Nat → Int64) (v : Int64) (hn : n < 2147483648) : CM l yJ7_fill_d0a16 wsJ7_fill_d0a16 0 0 sz D g [.ref a, .long v] [(a, .inl (g 1, n, .inr (.inl f)))] (QMv D [(a, .inl (g 1, n, .inr (.inl f)))] sz [(a, .inl (g 1, n, .inr (.inl (fil n v f))))]) := by
  refine Met.ofW (cc := cJ7_fill_d0a16) (maxL := 5) (ret := none) (by decide) rfl ?_
  intro p e s m args below meth c s₁ B hml hv
  obtain ⟨rfl, hsz, hP, hK, hD0⟩ := hv
  have hx := B.exec
  have hb := B.bytes
  have hr := B.returns
  have hlocks := B.notSynchronized
  subst hsz
  have hD := hD0.self (sz := s.heap.size)
  have hS : va_S (va_A [(a, .inl (g 1, n, .inr (.inl f)))] s.heap.size) s.heap s.heap [] := va_S.rf
  have hl := lv_entry ([.ref a, .long v]) (n := 5) (Nat.le_of_ble_eq_true rfl)
  rw [lg_entry_eq]
  generalize (lg_sl ([.ref a, .long v]) ++ List.replicate (5 - (lg_sl ([.ref a, .long v])).length) Slot.unset).toArray = ls at hl ⊢
  replace hl : lv_has ls 5 [(0, .ref a), (1, .long v)] := hl
  have lp : ∀ (k i : Nat), i + k = n → ∀ (H : Heap) (locs : List Loc), va_P D vwCl [(a, .inl (g 1, n, .inr (.inl (fil i v f))))] H → va_D (va_A [(a, .inl (g 1, n, .inr (.inl f)))] s.heap.size) [(a, .inl (g 1, n, .inr (.inl (fil i v f))))] → va_S (va_A [(a, .inl (g 1, n, .inr (.inl f)))] s.heap.size) s.heap H locs → ∀ ls : Array Slot, lv_has ls 5 [(4, .int (nI n)), (3, .int (nI i)), (0, .ref a), (1, .long v)] → W p l e (headSpec wsJ7_fill_d0a16 ({ frames := 0, cells := 0, slots := 0, locals := 0 })).room s m ([.ref a, .long v] : List Value).toArray below meth c H locs 0 0 (MQ below (QMv D [(a, .inl (g 1, n, .inr (.inl f)))] s.heap.size [(a, .inl (g 1, n, .inr (.inl (fil n v f))))]) ([.ref a, .long v] : List Value).toArray s 0 0 (va_A [(a, .inl (g 1, n, .inr (.inl f)))] s.heap.size)) (F0 m 6 ls []) := by
    intro k
    induction k with
    | zero =>
      intro i hi H locs hP hD hS ls hl
      obtain rfl : i = n := by omega
      refine lv_iload_n hx hb dJ7_fill_d0a16_6 rfl (lv_at hl 1 rfl) ?_
      refine lv_iload hx hb dJ7_fill_d0a16_7 (lv_at hl 0 rfl) ?_
      refine lv_icmp_ge (tgt := 22) hx hb dJ7_fill_d0a16_9 (by decide) (fun _ => ?_) (fun q => absurd (Int32.le_refl _) q)
      exact W.vret hx hb hr (fun t ht hW => ⟨⟨(), rfl, trivial, by rw [ht]; exact hP, hD⟩, hS.F ht⟩) hS.2.2 dJ7_fill_d0a16_22
    | succ k ih =>
      intro i hi H locs hP hD hS ls hl
      have hin : i < n := by omega
      refine lv_iload_n hx hb dJ7_fill_d0a16_6 rfl (lv_at hl 1 rfl) ?_
      refine lv_iload hx hb dJ7_fill_d0a16_7 (lv_at hl 0 rfl) ?_
      refine lv_icmp_ge (tgt := 22) hx hb dJ7_fill_d0a16_9 (by decide) (fun q => absurd q (nI_ge hin hn)) (fun _ => ?_)
      refine lv_aload_n hx hb dJ7_fill_d0a16_12 rfl (lv_at hl 2 rfl) ?_
      refine lv_iload_n hx hb dJ7_fill_d0a16_13 rfl (lv_at hl 1 rfl) ?_
      refine lv_lload_n hx hb dJ7_fill_d0a16_14 rfl (lv_at hl 3 rfl) ?_
      refine va_last hx hb hK.1 hP hD hS 0 1 rfl rfl (vp_in_nI hin hn) dJ7_fill_d0a16_15 (fun H locs hP hD hS => ?_)
      rw [nI_clamp (Nat.lt_trans hin hn), fil_l] at hP hD
      refine lv_iinc (v := nI (i + 1)) (lv' := [(3, .int (nI (i + 1))), (4, .int (nI n)), (0, .ref a), (1, .long v)]) hx hb dJ7_fill_d0a16_16 hl (k := 1) rfl (nI_1 i) (by decide) rfl (fun ls hl => ?_)
      refine lv_goto (tgt := 6) hx hb dJ7_fill_d0a16_19 (by decide) ?_
      exact ih (i + 1) (by omega) H locs hP hD hS ls (lv_sub hl [1, 0, 2, 3] rfl)
  refine lv_iconst (v := 0) hx hb dJ7_fill_d0a16_0 (by decide) ?_
  refine lv_istore_n (lv' := [(3, .int (nI 0)), (0, .ref a), (1, .long v)]) hx hb dJ7_fill_d0a16_1 rfl hl (by decide) rfl (fun ls hl => ?_)
  refine lv_aload_n hx hb dJ7_fill_d0a16_2 rfl (lv_at hl 1 rfl) ?_
  refine va_alen (v := nI n) hx hb hK.1 hP 0 1 rfl rfl rfl dJ7_fill_d0a16_3 ?_
  refine lv_istore (lv' := [(4, .int (nI n)), (3, .int (nI 0)), (0, .ref a), (1, .long v)]) hx hb dJ7_fill_d0a16_4 hl (by decide) rfl (fun ls hl => ?_)
  have e0 : f = fil 0 v f := by
    funext j
    unfold fil
    rw [if_neg (Nat.not_lt_zero j)]
  exact lp n 0 (Nat.zero_add n) s.heap [] (by rw [← e0]; exact hP) (by rw [← e0]; exact hD) hS ls (lv_sub hl [0, 1, 2, 3] rfl)
theorem pd_X6_quotient : yX6_quotient.cls ≠ "java/lang/invoke/MethodHandle" ∧ yX6_quotient.cls ≠ "java/lang/invoke/VarHandle" ∧ (parseMethodDescriptor yX6_quotient.desc).map (fun d => d.parameters.length) = some 2 := by decide +kernel
def f_X6_quotient (x0 : Int32) (x1 : Int32) : Option (Int32) :=
  (if x1 = (0 : Int32) then (some (0 : Int32)) else (nz x1 (some (x0 / x1))))
set_option maxHeartbeats 4000000 in
set_option maxRecDepth 100000 in
theorem c_X6_quotient (l : Launch) (D : va_G) (g : Nat → ClassId)  (x0 : Int32) (x1 : Int32) (r : Int32) (hf : f_X6_quotient x0 x1 = some r) : CR l yX6_quotient wsX6_quotient 0 0 D g [.int x0, .int x1] [] (QRi r) := by
  refine Met.ofW (cc := cX6_quotient) (maxL := 2) (ret := (some .int)) (by decide) rfl ?_
  intro p e s m args below meth c s₁ B hml hv
  obtain ⟨rfl, hP, hK⟩ := hv
  have hx := B.exec
  have hb := B.bytes
  have hr := B.returns
  have hts := atoms_spec (ws := wsX6_quotient) B.pre
  have hown : s.vm.findClass RX6 = some m.cls := findClass_of_methodNamed B.named
  have hlocks := B.notSynchronized
  have hl := lv_entry ([.int x0, .int x1]) (n := 2) (Nat.le_of_ble_eq_true rfl)
  rw [lg_entry_eq]
  generalize (lg_sl ([.int x0, .int x1]) ++ List.replicate (2 - (lg_sl ([.int x0, .int x1])).length) Slot.unset).toArray = ls at hl ⊢
  replace hl : lv_has ls 2 [(0, .int x0), (1, .int x1)] := hl
  have h := hf
  unfold f_X6_quotient at h
  refine lv_iload_n hx hb dX6_quotient_0 rfl (lv_at hl 1 rfl) ?_
  refine lv_if_ne (tgt := 8) hx hb dX6_quotient_1 (by decide) (fun c1 => ?_) (fun c1 => ?_)
  · replace h := ite_f c1 h
    refine lv_iload_n hx hb dX6_quotient_8 rfl (lv_at hl 0 rfl) ?_
    refine lv_iload_n hx hb dX6_quotient_9 rfl (lv_at hl 1 rfl) ?_
    refine lv_idiv hx hb dX6_quotient_10 (nz_in h) ?_
    replace h := nz_k h
    replace h := Option.some.inj h
    subst h
    exact W.iret hx hb hr (fun t ht hW => ⟨_, rfl, rfl, ht⟩) (fun q hq => by cases hq) dX6_quotient_11
  · replace h := ite_t c1 h
    refine lv_iconst (v := 0) hx hb dX6_quotient_4 (by decide) ?_
    refine lv_goto (tgt := 11) hx hb dX6_quotient_5 (by decide) ?_
    replace h := Option.some.inj h
    subst h
    exact W.iret hx hb hr (fun t ht hW => ⟨_, rfl, rfl, ht⟩) (fun q hq => by cases hq) dX6_quotient_11
theorem pd_X6_remainder : yX6_remainder.cls ≠ "java/lang/invoke/MethodHandle" ∧ yX6_remainder.cls ≠ "java/lang/invoke/VarHandle" ∧ (parseMethodDescriptor yX6_remainder.desc).map (fun d => d.parameters.length) = some 2 := by decide +kernel
def f_X6_remainder (x0 : Int32) (x1 : Int32) : Option (Int32) :=
  (if x1 = (0 : Int32) then (some (0 : Int32)) else (nz x1 (some (x0 - x0 / x1 * x1))))
set_option maxHeartbeats 4000000 in
set_option maxRecDepth 100000 in
theorem c_X6_remainder (l : Launch) (D : va_G) (g : Nat → ClassId)  (x0 : Int32) (x1 : Int32) (r : Int32) (hf : f_X6_remainder x0 x1 = some r) : CR l yX6_remainder wsX6_remainder 0 0 D g [.int x0, .int x1] [] (QRi r) := by
  refine Met.ofW (cc := cX6_remainder) (maxL := 2) (ret := (some .int)) (by decide) rfl ?_
  intro p e s m args below meth c s₁ B hml hv
  obtain ⟨rfl, hP, hK⟩ := hv
  have hx := B.exec
  have hb := B.bytes
  have hr := B.returns
  have hts := atoms_spec (ws := wsX6_remainder) B.pre
  have hown : s.vm.findClass RX6 = some m.cls := findClass_of_methodNamed B.named
  have hlocks := B.notSynchronized
  have hl := lv_entry ([.int x0, .int x1]) (n := 2) (Nat.le_of_ble_eq_true rfl)
  rw [lg_entry_eq]
  generalize (lg_sl ([.int x0, .int x1]) ++ List.replicate (2 - (lg_sl ([.int x0, .int x1])).length) Slot.unset).toArray = ls at hl ⊢
  replace hl : lv_has ls 2 [(0, .int x0), (1, .int x1)] := hl
  have h := hf
  unfold f_X6_remainder at h
  refine lv_iload_n hx hb dX6_remainder_0 rfl (lv_at hl 1 rfl) ?_
  refine lv_if_ne (tgt := 8) hx hb dX6_remainder_1 (by decide) (fun c1 => ?_) (fun c1 => ?_)
  · replace h := ite_f c1 h
    refine lv_iload_n hx hb dX6_remainder_8 rfl (lv_at hl 0 rfl) ?_
    refine lv_iload_n hx hb dX6_remainder_9 rfl (lv_at hl 1 rfl) ?_
    refine lv_irem hx hb dX6_remainder_10 (nz_in h) ?_
    replace h := nz_k h
    replace h := Option.some.inj h
    subst h
    exact W.iret hx hb hr (fun t ht hW => ⟨_, rfl, rfl, ht⟩) (fun q hq => by cases hq) dX6_remainder_11
  · replace h := ite_t c1 h
    refine lv_iconst (v := 0) hx hb dX6_remainder_4 (by decide) ?_
    refine lv_goto (tgt := 11) hx hb dX6_remainder_5 (by decide) ?_
    replace h := Option.some.inj h
    subst h
    exact W.iret hx hb hr (fun t ht hW => ⟨_, rfl, rfl, ht⟩) (fun q hq => by cases hq) dX6_remainder_11
theorem pd_X4_lowestValue : yX4_lowestValue.cls ≠ "java/lang/invoke/MethodHandle" ∧ yX4_lowestValue.cls ≠ "java/lang/invoke/VarHandle" ∧ (parseMethodDescriptor yX4_lowestValue.desc).map (fun d => d.parameters.length) = some 1 := by decide +kernel
def f_X4_lowestValue_s2 (x0 : Int32) (v1_2 : Int32) : Option ((Int32) ⊕ (Int32)) :=
  (if (5 : Int32) ≤ v1_2 then (some (.inr (0 : Int32))) else (if ((x0 >>> (v1_2 &&& 31)) &&& (1 : Int32)) = (0 : Int32) then (some (.inl (v1_2 + 1))) else (some (.inr v1_2))))
def f_X4_lowestValue (x0 : Int32) : Option (Int32) :=
  (wl (fun q => f_X4_lowestValue_s2 x0 q) 5000 (0 : Int32))
set_option maxHeartbeats 4000000 in
set_option maxRecDepth 100000 in
theorem c_X4_lowestValue (l : Launch) (D : va_G) (g : Nat → ClassId)  (x0 : Int32) (r : Int32) (hf : f_X4_lowestValue x0 = some r) : CR l yX4_lowestValue wsX4_lowestValue 0 0 D g [.int x0] [] (QRi r) := by
  refine Met.ofW (cc := cX4_lowestValue) (maxL := 2) (ret := (some .int)) (by decide) rfl ?_
  intro p e s m args below meth c s₁ B hml hv
  obtain ⟨rfl, hP, hK⟩ := hv
  have hx := B.exec
  have hb := B.bytes
  have hr := B.returns
  have hts := atoms_spec (ws := wsX4_lowestValue) B.pre
  have hown : s.vm.findClass RX4 = some m.cls := findClass_of_methodNamed B.named
  have hlocks := B.notSynchronized
  have hl := lv_entry ([.int x0]) (n := 2) (Nat.le_of_ble_eq_true rfl)
  rw [lg_entry_eq]
  generalize (lg_sl ([.int x0]) ++ List.replicate (2 - (lg_sl ([.int x0])).length) Slot.unset).toArray = ls at hl ⊢
  replace hl : lv_has ls 2 [(0, .int x0)] := hl
  have h := hf
  unfold f_X4_lowestValue at h
  refine lv_iconst (v := 0) hx hb dX4_lowestValue_0 (by decide) ?_
  refine lv_istore_n (lv' := [(1, .int (0 : Int32)), (0, .int x0)]) hx hb dX4_lowestValue_1 rfl hl (by decide) rfl (fun ls hl => ?_)
  have lp2 : ∀ (n : Nat) (v1_2 : Int32), wl (fun q => f_X4_lowestValue_s2 x0 q) n v1_2 = some r → ∀ ls : Array Slot, lv_has ls 2 [(1, .int v1_2), (0, .int x0)] → W p l e (headSpec wsX4_lowestValue ({ frames := 0, cells := 0, slots := 0, locals := 0 })).room s m ([.int x0] : List Value).toArray below meth c s.heap [] 0 0 (MQ below (QRi r) ([.int x0] : List Value).toArray s 0 0 (fun _ => False)) (F0 m 2 ls []) := by
    intro n
    induction n with
    | zero =>
      intro v1_2 h
      exact wl_0 h
    | succ n ih1 =>
      intro v1_2 h ls hl
      obtain ⟨o1, h, k1⟩ := wl_s h
      replace h : f_X4_lowestValue_s2 x0 v1_2 = some o1 := h
      unfold f_X4_lowestValue_s2 at h
      refine lv_iload_n hx hb dX4_lowestValue_2 rfl (lv_at hl 0 rfl) ?_
      refine lv_iconst (v := 5) hx hb dX4_lowestValue_3 (by decide) ?_
      refine lv_icmp_ge (tgt := 23) hx hb dX4_lowestValue_4 (by decide) (fun c4 => ?_) (fun c4 => ?_)
      · replace h := ite_t c4 h
        refine lv_iconst (v := 0) hx hb dX4_lowestValue_23 (by decide) ?_
        replace h := Option.some.inj h
        subst h
        replace h := wk_r k1
        subst h
        exact W.iret hx hb hr (fun t ht hW => ⟨_, rfl, rfl, ht⟩) (fun q hq => by cases hq) dX4_lowestValue_24
      · replace h := ite_f c4 h
        refine lv_iload_n hx hb dX4_lowestValue_7 rfl (lv_at hl 1 rfl) ?_
        refine lv_iload_n hx hb dX4_lowestValue_8 rfl (lv_at hl 0 rfl) ?_
        refine lv_ishr hx hb dX4_lowestValue_9 ?_
        refine lv_iconst (v := 1) hx hb dX4_lowestValue_10 (by decide) ?_
        refine lv_iand hx hb dX4_lowestValue_11 ?_
        refine lv_if_eq (tgt := 17) hx hb dX4_lowestValue_12 (by decide) (fun c12 => ?_) (fun c12 => ?_)
        · replace h := ite_t c12 h
          refine lv_iinc (v := (v1_2 + 1)) (lv' := [(1, .int (v1_2 + 1)), (0, .int x0)]) hx hb dX4_lowestValue_17 hl (k := 0) rfl rfl (by decide) rfl (fun ls hl => ?_)
          refine lv_goto (tgt := 2) hx hb dX4_lowestValue_20 (by decide) ?_
          replace h := Option.some.inj h
          subst h
          exact ih1 (v1_2 + 1) (wk_l k1) ls (lv_sub hl [0, 1] rfl)
        · replace h := ite_f c12 h
          refine lv_iload_n hx hb dX4_lowestValue_15 rfl (lv_at hl 0 rfl) ?_
          replace h := Option.some.inj h
          subst h
          replace h := wk_r k1
          subst h
          exact W.iret hx hb hr (fun t ht hW => ⟨_, rfl, rfl, ht⟩) (fun q hq => by cases hq) dX4_lowestValue_16
  exact lp2 5000 (0 : Int32) h ls (lv_sub hl [0, 1] rfl)
theorem pd_X6_isSize : yX6_isSize.cls ≠ "java/lang/invoke/MethodHandle" ∧ yX6_isSize.cls ≠ "java/lang/invoke/VarHandle" ∧ (parseMethodDescriptor yX6_isSize.desc).map (fun d => d.parameters.length) = some 1 := by decide +kernel
def f_X6_isSize (x0 : Int32) : Option (Bool) :=
  (if x0 < (2 : Int32) then (some false) else (if (5 : Int32) < x0 then (some false) else (some true)))
set_option maxHeartbeats 4000000 in
set_option maxRecDepth 100000 in
theorem c_X6_isSize (l : Launch) (D : va_G) (g : Nat → ClassId)  (x0 : Int32) (r : Bool) (hf : f_X6_isSize x0 = some r) : CR l yX6_isSize wsX6_isSize 0 0 D g [.int x0] [] (QRi (bI r)) := by
  refine Met.ofW (cc := cX6_isSize) (maxL := 1) (ret := (some .boolean)) (by decide) rfl ?_
  intro p e s m args below meth c s₁ B hml hv
  obtain ⟨rfl, hP, hK⟩ := hv
  have hx := B.exec
  have hb := B.bytes
  have hr := B.returns
  have hts := atoms_spec (ws := wsX6_isSize) B.pre
  have hown : s.vm.findClass RX6 = some m.cls := findClass_of_methodNamed B.named
  have hlocks := B.notSynchronized
  have hl := lv_entry ([.int x0]) (n := 1) (Nat.le_of_ble_eq_true rfl)
  rw [lg_entry_eq]
  generalize (lg_sl ([.int x0]) ++ List.replicate (1 - (lg_sl ([.int x0])).length) Slot.unset).toArray = ls at hl ⊢
  replace hl : lv_has ls 1 [(0, .int x0)] := hl
  have h := hf
  unfold f_X6_isSize at h
  refine lv_iload_n hx hb dX6_isSize_0 rfl (lv_at hl 0 rfl) ?_
  refine lv_iconst (v := 2) hx hb dX6_isSize_1 (by decide) ?_
  refine lv_icmp_lt (tgt := 14) hx hb dX6_isSize_2 (by decide) (fun c2 => ?_) (fun c2 => ?_)
  · replace h := ite_t c2 h
    refine lv_iconst (v := 0) hx hb dX6_isSize_14 (by decide) ?_
    replace h := Option.some.inj h
    subst h
    exact W.zret hx hb hr rfl (fun t ht hW => ⟨_, rfl, rfl, ht⟩) (fun q hq => by cases hq) dX6_isSize_15
  · replace h := ite_f c2 h
    refine lv_iload_n hx hb dX6_isSize_5 rfl (lv_at hl 0 rfl) ?_
    refine lv_iconst (v := 5) hx hb dX6_isSize_6 (by decide) ?_
    refine lv_icmp_gt (tgt := 14) hx hb dX6_isSize_7 (by decide) (fun c7 => ?_) (fun c7 => ?_)
    · replace h := ite_t c7 h
      refine lv_iconst (v := 0) hx hb dX6_isSize_14 (by decide) ?_
      replace h := Option.some.inj h
      subst h
      exact W.zret hx hb hr rfl (fun t ht hW => ⟨_, rfl, rfl, ht⟩) (fun q hq => by cases hq) dX6_isSize_15
    · replace h := ite_f c7 h
      refine lv_iconst (v := 1) hx hb dX6_isSize_10 (by decide) ?_
      refine lv_goto (tgt := 15) hx hb dX6_isSize_11 (by decide) ?_
      replace h := Option.some.inj h
      subst h
      exact W.zret hx hb hr rfl (fun t ht hW => ⟨_, rfl, rfl, ht⟩) (fun q hq => by cases hq) dX6_isSize_15
theorem pd_X6_mayFollow : yX6_mayFollow.cls ≠ "java/lang/invoke/MethodHandle" ∧ yX6_mayFollow.cls ≠ "java/lang/invoke/VarHandle" ∧ (parseMethodDescriptor yX6_mayFollow.desc).map (fun d => d.parameters.length) = some 2 := by decide +kernel
def f_X6_mayFollow (x0 : Int32) (x1 : Int32) : Option (Bool) :=
  (if x1 = (0 : Int32) then (some true) else (if x0 = (0 : Int32) then (some false) else (Option.bind (f_X6_isSize x1) fun z9 => (if z9 = true then (some true) else (some false)))))
set_option maxHeartbeats 4000000 in
set_option maxRecDepth 100000 in
theorem c_X6_mayFollow (l : Launch) (D : va_G) (g : Nat → ClassId)  (x0 : Int32) (x1 : Int32) (r : Bool) (hf : f_X6_mayFollow x0 x1 = some r) : CR l yX6_mayFollow wsX6_mayFollow 1 20 D g [.int x0, .int x1] [] (QRi (bI r)) := by
  refine Met.ofW (cc := cX6_mayFollow) (maxL := 2) (ret := (some .boolean)) (by decide) rfl ?_
  intro p e s m args below meth c s₁ B hml hv
  obtain ⟨rfl, hP, hK⟩ := hv
  have hx := B.exec
  have hb := B.bytes
  have hr := B.returns
  have hts := atoms_spec (ws := wsX6_mayFollow) B.pre
  have hown : s.vm.findClass RX6 = some m.cls := findClass_of_methodNamed B.named
  have hlocks := B.notSynchronized
  have hl := lv_entry ([.int x0, .int x1]) (n := 2) (Nat.le_of_ble_eq_true rfl)
  rw [lg_entry_eq]
  generalize (lg_sl ([.int x0, .int x1]) ++ List.replicate (2 - (lg_sl ([.int x0, .int x1])).length) Slot.unset).toArray = ls at hl ⊢
  replace hl : lv_has ls 2 [(0, .int x0), (1, .int x1)] := hl
  have h := hf
  unfold f_X6_mayFollow at h
  refine lv_iload_n hx hb dX6_mayFollow_0 rfl (lv_at hl 1 rfl) ?_
  refine lv_if_eq (tgt := 15) hx hb dX6_mayFollow_1 (by decide) (fun c1 => ?_) (fun c1 => ?_)
  · replace h := ite_t c1 h
    refine lv_iconst (v := 1) hx hb dX6_mayFollow_15 (by decide) ?_
    refine lv_goto (tgt := 20) hx hb dX6_mayFollow_16 (by decide) ?_
    replace h := Option.some.inj h
    subst h
    exact W.zret hx hb hr rfl (fun t ht hW => ⟨_, rfl, rfl, ht⟩) (fun q hq => by cases hq) dX6_mayFollow_20
  · replace h := ite_f c1 h
    refine lv_iload_n hx hb dX6_mayFollow_4 rfl (lv_at hl 0 rfl) ?_
    refine lv_if_eq (tgt := 19) hx hb dX6_mayFollow_5 (by decide) (fun c5 => ?_) (fun c5 => ?_)
    · replace h := ite_t c5 h
      refine lv_iconst (v := 0) hx hb dX6_mayFollow_19 (by decide) ?_
      replace h := Option.some.inj h
      subst h
      exact W.zret hx hb hr rfl (fun t ht hW => ⟨_, rfl, rfl, ht⟩) (fun q hq => by cases hq) dX6_mayFollow_20
    · replace h := ite_f c5 h
      refine lv_iload_n hx hb dX6_mayFollow_8 rfl (lv_at hl 1 rfl) ?_
      obtain ⟨z9, e_9, h⟩ := bd_s h
      refine cr_i (va_runS (As := [.int x1]) (rest := []) ⟨hx, hb, hml, hown, hts⟩ (c_X6_isSize l D g x1 z9 e_9) (va_cwS 1 hts gX6_mayFollow_X6_isSize rfl rfl rfl pd_X6_isSize ⟨Nat.le_of_ble_eq_true rfl, Nat.le_of_ble_eq_true rfl⟩) (pr_s hK hP) rfl rfl hl.1 rfl (lv_room (Nat.le_of_ble_eq_true rfl)) dX6_mayFollow_9 ⟨Nat.zero_le _, Nat.zero_le _⟩) ?_
      refine lb_eq (tgt := 19) hx hb dX6_mayFollow_12 (by decide) (fun c12 => ?_) (fun c12 => ?_)
      · replace h := ite_t c12 h
        refine lv_iconst (v := 1) hx hb dX6_mayFollow_15 (by decide) ?_
        refine lv_goto (tgt := 20) hx hb dX6_mayFollow_16 (by decide) ?_
        replace h := Option.some.inj h
        subst h
        exact W.zret hx hb hr rfl (fun t ht hW => ⟨_, rfl, rfl, ht⟩) (fun q hq => by cases hq) dX6_mayFollow_20
      · replace h := ite_f c12 h
        refine lv_iconst (v := 0) hx hb dX6_mayFollow_19 (by decide) ?_
        replace h := Option.some.inj h
        subst h
        exact W.zret hx hb hr rfl (fun t ht hW => ⟨_, rfl, rfl, ht⟩) (fun q hq => by cases hq) dX6_mayFollow_20
theorem pd_X6_isActionOrNone : yX6_isActionOrNone.cls ≠ "java/lang/invoke/MethodHandle" ∧ yX6_isActionOrNone.cls ≠ "java/lang/invoke/VarHandle" ∧ (parseMethodDescriptor yX6_isActionOrNone.desc).map (fun d => d.parameters.length) = some 1 := by decide +kernel
def f_X6_isActionOrNone (x0 : Int32) : Option (Bool) :=
  (if x0 < (-1 : Int32) then (some false) else (if (9 : Int32) < x0 then (some false) else (some true)))
set_option maxHeartbeats 4000000 in
set_option maxRecDepth 100000 in
theorem c_X6_isActionOrNone (l : Launch) (D : va_G) (g : Nat → ClassId)  (x0 : Int32) (r : Bool) (hf : f_X6_isActionOrNone x0 = some r) : CR l yX6_isActionOrNone wsX6_isActionOrNone 0 0 D g [.int x0] [] (QRi (bI r)) := by
  refine Met.ofW (cc := cX6_isActionOrNone) (maxL := 1) (ret := (some .boolean)) (by decide) rfl ?_
  intro p e s m args below meth c s₁ B hml hv
  obtain ⟨rfl, hP, hK⟩ := hv
  have hx := B.exec
  have hb := B.bytes
  have hr := B.returns
  have hts := atoms_spec (ws := wsX6_isActionOrNone) B.pre
  have hown : s.vm.findClass RX6 = some m.cls := findClass_of_methodNamed B.named
  have hlocks := B.notSynchronized
  have hl := lv_entry ([.int x0]) (n := 1) (Nat.le_of_ble_eq_true rfl)
  rw [lg_entry_eq]
  generalize (lg_sl ([.int x0]) ++ List.replicate (1 - (lg_sl ([.int x0])).length) Slot.unset).toArray = ls at hl ⊢
  replace hl : lv_has ls 1 [(0, .int x0)] := hl
  have h := hf
  unfold f_X6_isActionOrNone at h
  refine lv_iload_n hx hb dX6_isActionOrNone_0 rfl (lv_at hl 0 rfl) ?_
  refine lv_iconst (v := -1) hx hb dX6_isActionOrNone_1 (by decide) ?_
  refine lv_icmp_lt (tgt := 15) hx hb dX6_isActionOrNone_2 (by decide) (fun c2 => ?_) (fun c2 => ?_)
  · replace h := ite_t c2 h
    refine lv_iconst (v := 0) hx hb dX6_isActionOrNone_15 (by decide) ?_
    replace h := Option.some.inj h
    subst h
    exact W.zret hx hb hr rfl (fun t ht hW => ⟨_, rfl, rfl, ht⟩) (fun q hq => by cases hq) dX6_isActionOrNone_16
  · replace h := ite_f c2 h
    refine lv_iload_n hx hb dX6_isActionOrNone_5 rfl (lv_at hl 0 rfl) ?_
    refine lv_bipush (v := 9) hx hb dX6_isActionOrNone_6 (by decide) ?_
    refine lv_icmp_gt (tgt := 15) hx hb dX6_isActionOrNone_8 (by decide) (fun c8 => ?_) (fun c8 => ?_)
    · replace h := ite_t c8 h
      refine lv_iconst (v := 0) hx hb dX6_isActionOrNone_15 (by decide) ?_
      replace h := Option.some.inj h
      subst h
      exact W.zret hx hb hr rfl (fun t ht hW => ⟨_, rfl, rfl, ht⟩) (fun q hq => by cases hq) dX6_isActionOrNone_16
    · replace h := ite_f c8 h
      refine lv_iconst (v := 1) hx hb dX6_isActionOrNone_11 (by decide) ?_
      refine lv_goto (tgt := 16) hx hb dX6_isActionOrNone_12 (by decide) ?_
      replace h := Option.some.inj h
      subst h
      exact W.zret hx hb hr rfl (fun t ht hW => ⟨_, rfl, rfl, ht⟩) (fun q hq => by cases hq) dX6_isActionOrNone_16
theorem pd_X6_actionAnswer : yX6_actionAnswer.cls ≠ "java/lang/invoke/MethodHandle" ∧ yX6_actionAnswer.cls ≠ "java/lang/invoke/VarHandle" ∧ (parseMethodDescriptor yX6_actionAnswer.desc).map (fun d => d.parameters.length) = some 1 := by decide +kernel
def f_X6_actionAnswer (x0 : Int32) : Option (Int32) :=
  (if (0 : Int32) ≤ x0 then (some x0) else (some (-6 : Int32)))
set_option maxHeartbeats 4000000 in
set_option maxRecDepth 100000 in
theorem c_X6_actionAnswer (l : Launch) (D : va_G) (g : Nat → ClassId)  (x0 : Int32) (r : Int32) (hf : f_X6_actionAnswer x0 = some r) : CR l yX6_actionAnswer wsX6_actionAnswer 0 0 D g [.int x0] [] (QRi r) := by
  refine Met.ofW (cc := cX6_actionAnswer) (maxL := 1) (ret := (some .int)) (by decide) rfl ?_
  intro p e s m args below meth c s₁ B hml hv
  obtain ⟨rfl, hP, hK⟩ := hv
  have hx := B.exec
  have hb := B.bytes
  have hr := B.returns
  have hts := atoms_spec (ws := wsX6_actionAnswer) B.pre
  have hown : s.vm.findClass RX6 = some m.cls := findClass_of_methodNamed B.named
  have hlocks := B.notSynchronized
  have hl := lv_entry ([.int x0]) (n := 1) (Nat.le_of_ble_eq_true rfl)
  rw [lg_entry_eq]
  generalize (lg_sl ([.int x0]) ++ List.replicate (1 - (lg_sl ([.int x0])).length) Slot.unset).toArray = ls at hl ⊢
  replace hl : lv_has ls 1 [(0, .int x0)] := hl
  have h := hf
  unfold f_X6_actionAnswer at h
  refine lv_iload_n hx hb dX6_actionAnswer_0 rfl (lv_at hl 0 rfl) ?_
  refine lv_if_ge (tgt := 9) hx hb dX6_actionAnswer_1 (by decide) (fun c1 => ?_) (fun c1 => ?_)
  · replace h := ite_t c1 h
    refine lv_iload_n hx hb dX6_actionAnswer_9 rfl (lv_at hl 0 rfl) ?_
    replace h := Option.some.inj h
    subst h
    exact W.iret hx hb hr (fun t ht hW => ⟨_, rfl, rfl, ht⟩) (fun q hq => by cases hq) dX6_actionAnswer_10
  · replace h := ite_f c1 h
    refine lv_bipush (v := -6) hx hb dX6_actionAnswer_4 (by decide) ?_
    refine lv_goto (tgt := 10) hx hb dX6_actionAnswer_6 (by decide) ?_
    replace h := Option.some.inj h
    subst h
    exact W.iret hx hb hr (fun t ht hW => ⟨_, rfl, rfl, ht⟩) (fun q hq => by cases hq) dX6_actionAnswer_10
theorem pd_J6_bitCount_0f7a4 : yJ6_bitCount_0f7a4.cls ≠ "java/lang/invoke/MethodHandle" ∧ yJ6_bitCount_0f7a4.cls ≠ "java/lang/invoke/VarHandle" ∧ (parseMethodDescriptor yJ6_bitCount_0f7a4.desc).map (fun d => d.parameters.length) = some 1 := by decide +kernel
def f_J6_bitCount_0f7a4 (x0 : Int32) : Option (Int32) :=
  (nm (x0 - (((x0.toUInt32 >>> ((1 : Int32).toUInt32 &&& Int32.toUInt32 31)).toInt32) &&& (1431655765 : Int32))) fun z9 => (nm ((z9 &&& (858993459 : Int32)) + (((z9.toUInt32 >>> ((2 : Int32).toUInt32 &&& Int32.toUInt32 31)).toInt32) &&& (858993459 : Int32))) fun z23 => (nm ((z23 + ((z23.toUInt32 >>> ((4 : Int32).toUInt32 &&& Int32.toUInt32 31)).toInt32)) &&& (252645135 : Int32)) fun z33 => (nm (z33 + ((z33.toUInt32 >>> ((8 : Int32).toUInt32 &&& Int32.toUInt32 31)).toInt32)) fun z40 => (nm (z40 + ((z40.toUInt32 >>> ((16 : Int32).toUInt32 &&& Int32.toUInt32 31)).toInt32)) fun z47 => (some (z47 &&& (63 : Int32))))))))
set_option maxHeartbeats 4000000 in
set_option maxRecDepth 100000 in
theorem c_J6_bitCount_0f7a4 (l : Launch) (D : va_G) (g : Nat → ClassId)  (x0 : Int32) (r : Int32) (hf : f_J6_bitCount_0f7a4 x0 = some r) : CR l yJ6_bitCount_0f7a4 wsJ6_bitCount_0f7a4 0 0 D g [.int x0] [] (QRi r) := by
  refine Met.ofW (cc := cJ6_bitCount_0f7a4) (maxL := 1) (ret := (some .int)) (by decide) rfl ?_
  intro p e s m args below meth c s₁ B hml hv
  obtain ⟨rfl, hP, hK⟩ := hv
  have hx := B.exec
  have hb := B.bytes
  have hr := B.returns
  have hts := atoms_spec (ws := wsJ6_bitCount_0f7a4) B.pre
  have hown : s.vm.findClass RJ6 = some m.cls := findClass_of_methodNamed B.named
  have hlocks := B.notSynchronized
  have hh0 := hts (.constant RJ6 265 (1431655765)) (by decide +kernel)
  have hh1 := hts (.constant RJ6 266 (858993459)) (by decide +kernel)
  have hh2 := hts (.constant RJ6 267 (252645135)) (by decide +kernel)
  have hl := lv_entry ([.int x0]) (n := 1) (Nat.le_of_ble_eq_true rfl)
  rw [lg_entry_eq]
  generalize (lg_sl ([.int x0]) ++ List.replicate (1 - (lg_sl ([.int x0])).length) Slot.unset).toArray = ls at hl ⊢
  replace hl : lv_has ls 1 [(0, .int x0)] := hl
  have h := hf
  unfold f_J6_bitCount_0f7a4 at h
  refine lv_iload_n hx hb dJ6_bitCount_0f7a4_0 rfl (lv_at hl 0 rfl) ?_
  refine lv_iload_n hx hb dJ6_bitCount_0f7a4_1 rfl (lv_at hl 0 rfl) ?_
  refine lv_iconst (v := 1) hx hb dJ6_bitCount_0f7a4_2 (by decide) ?_
  refine lv_iushr (v := (x0.toUInt32 >>> ((1 : Int32).toUInt32 &&& Int32.toUInt32 31)).toInt32) hx hb dJ6_bitCount_0f7a4_3 rfl ?_
  refine lv_ldcw hx hb hown hh0 dJ6_bitCount_0f7a4_4 ?_
  refine lv_iand hx hb dJ6_bitCount_0f7a4_7 ?_
  refine lv_isub hx hb dJ6_bitCount_0f7a4_8 ?_
  refine lv_topi (fun z9 ez9 => ?_)
  replace h := nm_n h ez9
  refine lv_istore_n (lv' := [(0, .int z9)]) hx hb dJ6_bitCount_0f7a4_9 rfl hl (by decide) rfl (fun ls hl => ?_)
  refine lv_iload_n hx hb dJ6_bitCount_0f7a4_10 rfl (lv_at hl 0 rfl) ?_
  refine lv_ldcw hx hb hown hh1 dJ6_bitCount_0f7a4_11 ?_
  refine lv_iand hx hb dJ6_bitCount_0f7a4_14 ?_
  refine lv_iload_n hx hb dJ6_bitCount_0f7a4_15 rfl (lv_at hl 0 rfl) ?_
  refine lv_iconst (v := 2) hx hb dJ6_bitCount_0f7a4_16 (by decide) ?_
  refine lv_iushr (v := (z9.toUInt32 >>> ((2 : Int32).toUInt32 &&& Int32.toUInt32 31)).toInt32) hx hb dJ6_bitCount_0f7a4_17 rfl ?_
  refine lv_ldcw hx hb hown hh1 dJ6_bitCount_0f7a4_18 ?_
  refine lv_iand hx hb dJ6_bitCount_0f7a4_21 ?_
  refine lv_iadd hx hb dJ6_bitCount_0f7a4_22 ?_
  refine lv_topi (fun z23 ez23 => ?_)
  replace h := nm_n h ez23
  refine lv_istore_n (lv' := [(0, .int z23)]) hx hb dJ6_bitCount_0f7a4_23 rfl hl (by decide) rfl (fun ls hl => ?_)
  refine lv_iload_n hx hb dJ6_bitCount_0f7a4_24 rfl (lv_at hl 0 rfl) ?_
  refine lv_iload_n hx hb dJ6_bitCount_0f7a4_25 rfl (lv_at hl 0 rfl) ?_
  refine lv_iconst (v := 4) hx hb dJ6_bitCount_0f7a4_26 (by decide) ?_
  refine lv_iushr (v := (z23.toUInt32 >>> ((4 : Int32).toUInt32 &&& Int32.toUInt32 31)).toInt32) hx hb dJ6_bitCount_0f7a4_27 rfl ?_
  refine lv_iadd hx hb dJ6_bitCount_0f7a4_28 ?_
  refine lv_ldcw hx hb hown hh2 dJ6_bitCount_0f7a4_29 ?_
  refine lv_iand hx hb dJ6_bitCount_0f7a4_32 ?_
  refine lv_topi (fun z33 ez33 => ?_)
  replace h := nm_n h ez33
  refine lv_istore_n (lv' := [(0, .int z33)]) hx hb dJ6_bitCount_0f7a4_33 rfl hl (by decide) rfl (fun ls hl => ?_)
  refine lv_iload_n hx hb dJ6_bitCount_0f7a4_34 rfl (lv_at hl 0 rfl) ?_
  refine lv_iload_n hx hb dJ6_bitCount_0f7a4_35 rfl (lv_at hl 0 rfl) ?_
  refine lv_bipush (v := 8) hx hb dJ6_bitCount_0f7a4_36 (by decide) ?_
  refine lv_iushr (v := (z33.toUInt32 >>> ((8 : Int32).toUInt32 &&& Int32.toUInt32 31)).toInt32) hx hb dJ6_bitCount_0f7a4_38 rfl ?_
  refine lv_iadd hx hb dJ6_bitCount_0f7a4_39 ?_
  refine lv_topi (fun z40 ez40 => ?_)
  replace h := nm_n h ez40
  refine lv_istore_n (lv' := [(0, .int z40)]) hx hb dJ6_bitCount_0f7a4_40 rfl hl (by decide) rfl (fun ls hl => ?_)
  refine lv_iload_n hx hb dJ6_bitCount_0f7a4_41 rfl (lv_at hl 0 rfl) ?_
  refine lv_iload_n hx hb dJ6_bitCount_0f7a4_42 rfl (lv_at hl 0 rfl) ?_
  refine lv_bipush (v := 16) hx hb dJ6_bitCount_0f7a4_43 (by decide) ?_
  refine lv_iushr (v := (z40.toUInt32 >>> ((16 : Int32).toUInt32 &&& Int32.toUInt32 31)).toInt32) hx hb dJ6_bitCount_0f7a4_45 rfl ?_
  refine lv_iadd hx hb dJ6_bitCount_0f7a4_46 ?_
  refine lv_topi (fun z47 ez47 => ?_)
  replace h := nm_n h ez47
  refine lv_istore_n (lv' := [(0, .int z47)]) hx hb dJ6_bitCount_0f7a4_47 rfl hl (by decide) rfl (fun ls hl => ?_)
  refine lv_iload_n hx hb dJ6_bitCount_0f7a4_48 rfl (lv_at hl 0 rfl) ?_
  refine lv_bipush (v := 63) hx hb dJ6_bitCount_0f7a4_49 (by decide) ?_
  refine lv_iand hx hb dJ6_bitCount_0f7a4_51 ?_
  replace h := Option.some.inj h
  subst h
  exact W.iret hx hb hr (fun t ht hW => ⟨_, rfl, rfl, ht⟩) (fun q hq => by cases hq) dJ6_bitCount_0f7a4_52
theorem pd_X6_isSlot : yX6_isSlot.cls ≠ "java/lang/invoke/MethodHandle" ∧ yX6_isSlot.cls ≠ "java/lang/invoke/VarHandle" ∧ (parseMethodDescriptor yX6_isSlot.desc).map (fun d => d.parameters.length) = some 1 := by decide +kernel
def f_X6_isSlot (x0 : Int32) : Option (Bool) :=
  (if x0 < (0 : Int32) then (some false) else (if (4 : Int32) ≤ x0 then (some false) else (some true)))
set_option maxHeartbeats 4000000 in
set_option maxRecDepth 100000 in
theorem c_X6_isSlot (l : Launch) (D : va_G) (g : Nat → ClassId)  (x0 : Int32) (r : Bool) (hf : f_X6_isSlot x0 = some r) : CR l yX6_isSlot wsX6_isSlot 0 0 D g [.int x0] [] (QRi (bI r)) := by
  refine Met.ofW (cc := cX6_isSlot) (maxL := 1) (ret := (some .boolean)) (by decide) rfl ?_
  intro p e s m args below meth c s₁ B hml hv
  obtain ⟨rfl, hP, hK⟩ := hv
  have hx := B.exec
  have hb := B.bytes
  have hr := B.returns
  have hts := atoms_spec (ws := wsX6_isSlot) B.pre
  have hown : s.vm.findClass RX6 = some m.cls := findClass_of_methodNamed B.named
  have hlocks := B.notSynchronized
  have hl := lv_entry ([.int x0]) (n := 1) (Nat.le_of_ble_eq_true rfl)
  rw [lg_entry_eq]
  generalize (lg_sl ([.int x0]) ++ List.replicate (1 - (lg_sl ([.int x0])).length) Slot.unset).toArray = ls at hl ⊢
  replace hl : lv_has ls 1 [(0, .int x0)] := hl
  have h := hf
  unfold f_X6_isSlot at h
  refine lv_iload_n hx hb dX6_isSlot_0 rfl (lv_at hl 0 rfl) ?_
  refine lv_if_lt (tgt := 13) hx hb dX6_isSlot_1 (by decide) (fun c1 => ?_) (fun c1 => ?_)
  · replace h := ite_t c1 h
    refine lv_iconst (v := 0) hx hb dX6_isSlot_13 (by decide) ?_
    replace h := Option.some.inj h
    subst h
    exact W.zret hx hb hr rfl (fun t ht hW => ⟨_, rfl, rfl, ht⟩) (fun q hq => by cases hq) dX6_isSlot_14
  · replace h := ite_f c1 h
    refine lv_iload_n hx hb dX6_isSlot_4 rfl (lv_at hl 0 rfl) ?_
    refine lv_iconst (v := 4) hx hb dX6_isSlot_5 (by decide) ?_
    refine lv_icmp_ge (tgt := 13) hx hb dX6_isSlot_6 (by decide) (fun c6 => ?_) (fun c6 => ?_)
    · replace h := ite_t c6 h
      refine lv_iconst (v := 0) hx hb dX6_isSlot_13 (by decide) ?_
      replace h := Option.some.inj h
      subst h
      exact W.zret hx hb hr rfl (fun t ht hW => ⟨_, rfl, rfl, ht⟩) (fun q hq => by cases hq) dX6_isSlot_14
    · replace h := ite_f c6 h
      refine lv_iconst (v := 1) hx hb dX6_isSlot_9 (by decide) ?_
      refine lv_goto (tgt := 14) hx hb dX6_isSlot_10 (by decide) ?_
      replace h := Option.some.inj h
      subst h
      exact W.zret hx hb hr rfl (fun t ht hW => ⟨_, rfl, rfl, ht⟩) (fun q hq => by cases hq) dX6_isSlot_14
theorem pd_X7_isIn : yX7_isIn.cls ≠ "java/lang/invoke/MethodHandle" ∧ yX7_isIn.cls ≠ "java/lang/invoke/VarHandle" ∧ (parseMethodDescriptor yX7_isIn.desc).map (fun d => d.parameters.length) = some 3 := by decide +kernel
def f_X7_isIn (x0 : Int32) (x1 : Int32) (x2 : Int32) : Option (Bool) :=
  (if x0 < x1 then (some false) else (if x2 < x0 then (some false) else (some true)))
set_option maxHeartbeats 4000000 in
set_option maxRecDepth 100000 in
theorem c_X7_isIn (l : Launch) (D : va_G) (g : Nat → ClassId)  (x0 : Int32) (x1 : Int32) (x2 : Int32) (r : Bool) (hf : f_X7_isIn x0 x1 x2 = some r) : CR l yX7_isIn wsX7_isIn 0 0 D g [.int x0, .int x1, .int x2] [] (QRi (bI r)) := by
  refine Met.ofW (cc := cX7_isIn) (maxL := 3) (ret := (some .boolean)) (by decide) rfl ?_
  intro p e s m args below meth c s₁ B hml hv
  obtain ⟨rfl, hP, hK⟩ := hv
  have hx := B.exec
  have hb := B.bytes
  have hr := B.returns
  have hts := atoms_spec (ws := wsX7_isIn) B.pre
  have hown : s.vm.findClass RX7 = some m.cls := findClass_of_methodNamed B.named
  have hlocks := B.notSynchronized
  have hl := lv_entry ([.int x0, .int x1, .int x2]) (n := 3) (Nat.le_of_ble_eq_true rfl)
  rw [lg_entry_eq]
  generalize (lg_sl ([.int x0, .int x1, .int x2]) ++ List.replicate (3 - (lg_sl ([.int x0, .int x1, .int x2])).length) Slot.unset).toArray = ls at hl ⊢
  replace hl : lv_has ls 3 [(0, .int x0), (1, .int x1), (2, .int x2)] := hl
  have h := hf
  unfold f_X7_isIn at h
  refine lv_iload_n hx hb dX7_isIn_0 rfl (lv_at hl 0 rfl) ?_
  refine lv_iload_n hx hb dX7_isIn_1 rfl (lv_at hl 1 rfl) ?_
  refine lv_icmp_lt (tgt := 14) hx hb dX7_isIn_2 (by decide) (fun c2 => ?_) (fun c2 => ?_)
  · replace h := ite_t c2 h
    refine lv_iconst (v := 0) hx hb dX7_isIn_14 (by decide) ?_
    replace h := Option.some.inj h
    subst h
    exact W.zret hx hb hr rfl (fun t ht hW => ⟨_, rfl, rfl, ht⟩) (fun q hq => by cases hq) dX7_isIn_15
  · replace h := ite_f c2 h
    refine lv_iload_n hx hb dX7_isIn_5 rfl (lv_at hl 0 rfl) ?_
    refine lv_iload_n hx hb dX7_isIn_6 rfl (lv_at hl 2 rfl) ?_
    refine lv_icmp_gt (tgt := 14) hx hb dX7_isIn_7 (by decide) (fun c7 => ?_) (fun c7 => ?_)
    · replace h := ite_t c7 h
      refine lv_iconst (v := 0) hx hb dX7_isIn_14 (by decide) ?_
      replace h := Option.some.inj h
      subst h
      exact W.zret hx hb hr rfl (fun t ht hW => ⟨_, rfl, rfl, ht⟩) (fun q hq => by cases hq) dX7_isIn_15
    · replace h := ite_f c7 h
      refine lv_iconst (v := 1) hx hb dX7_isIn_10 (by decide) ?_
      refine lv_goto (tgt := 15) hx hb dX7_isIn_11 (by decide) ?_
      replace h := Option.some.inj h
      subst h
      exact W.zret hx hb hr rfl (fun t ht hW => ⟨_, rfl, rfl, ht⟩) (fun q hq => by cases hq) dX7_isIn_15
theorem pd_X7_isSize : yX7_isSize.cls ≠ "java/lang/invoke/MethodHandle" ∧ yX7_isSize.cls ≠ "java/lang/invoke/VarHandle" ∧ (parseMethodDescriptor yX7_isSize.desc).map (fun d => d.parameters.length) = some 1 := by decide +kernel
def f_X7_isSize (x0 : Int32) : Option (Bool) :=
  (Option.bind (f_X7_isIn x0 (2 : Int32) (5 : Int32)) fun z3 => (some z3))
set_option maxHeartbeats 4000000 in
set_option maxRecDepth 100000 in
theorem c_X7_isSize (l : Launch) (D : va_G) (g : Nat → ClassId)  (x0 : Int32) (r : Bool) (hf : f_X7_isSize x0 = some r) : CR l yX7_isSize wsX7_isSize 1 22 D g [.int x0] [] (QRi (bI r)) := by
  refine Met.ofW (cc := cX7_isSize) (maxL := 1) (ret := (some .boolean)) (by decide) rfl ?_
  intro p e s m args below meth c s₁ B hml hv
  obtain ⟨rfl, hP, hK⟩ := hv
  have hx := B.exec
  have hb := B.bytes
  have hr := B.returns
  have hts := atoms_spec (ws := wsX7_isSize) B.pre
  have hown : s.vm.findClass RX7 = some m.cls := findClass_of_methodNamed B.named
  have hlocks := B.notSynchronized
  have hl := lv_entry ([.int x0]) (n := 1) (Nat.le_of_ble_eq_true rfl)
  rw [lg_entry_eq]
  generalize (lg_sl ([.int x0]) ++ List.replicate (1 - (lg_sl ([.int x0])).length) Slot.unset).toArray = ls at hl ⊢
  replace hl : lv_has ls 1 [(0, .int x0)] := hl
  have h := hf
  unfold f_X7_isSize at h
  refine lv_iload_n hx hb dX7_isSize_0 rfl (lv_at hl 0 rfl) ?_
  refine lv_iconst (v := 2) hx hb dX7_isSize_1 (by decide) ?_
  refine lv_iconst (v := 5) hx hb dX7_isSize_2 (by decide) ?_
  obtain ⟨z3, e_3, h⟩ := bd_s h
  refine cr_i (va_runS (As := [.int x0, .int (2 : Int32), .int (5 : Int32)]) (rest := []) ⟨hx, hb, hml, hown, hts⟩ (c_X7_isIn l D g x0 (2 : Int32) (5 : Int32) z3 e_3) (va_cwS 3 hts gX7_isSize_X7_isIn rfl rfl rfl pd_X7_isIn ⟨Nat.le_of_ble_eq_true rfl, Nat.le_of_ble_eq_true rfl⟩) (pr_s hK hP) rfl rfl hl.1 rfl (lv_room (Nat.le_of_ble_eq_true rfl)) dX7_isSize_3 ⟨Nat.zero_le _, Nat.zero_le _⟩) ?_
  replace h := Option.some.inj h
  subst h
  exact W.zret hx hb hr (bI_n _) (fun t ht hW => ⟨_, rfl, rfl, ht⟩) (fun q hq => by cases hq) dX7_isSize_6
theorem pd_X7_told : yX7_told.cls ≠ "java/lang/invoke/MethodHandle" ∧ yX7_told.cls ≠ "java/lang/invoke/VarHandle" ∧ (parseMethodDescriptor yX7_told.desc).map (fun d => d.parameters.length) = some 1 := by decide +kernel
def f_X7_told (x0 : Int32) : Option (Int32) :=
  (if x0 = (-1 : Int32) then (some (-6 : Int32)) else (some x0))
set_option maxHeartbeats 4000000 in
set_option maxRecDepth 100000 in
theorem c_X7_told (l : Launch) (D : va_G) (g : Nat → ClassId)  (x0 : Int32) (r : Int32) (hf : f_X7_told x0 = some r) : CR l yX7_told wsX7_told 0 0 D g [.int x0] [] (QRi r) := by
  refine Met.ofW (cc := cX7_told) (maxL := 1) (ret := (some .int)) (by decide) rfl ?_
  intro p e s m args below meth c s₁ B hml hv
  obtain ⟨rfl, hP, hK⟩ := hv
  have hx := B.exec
  have hb := B.bytes
  have hr := B.returns
  have hts := atoms_spec (ws := wsX7_told) B.pre
  have hown : s.vm.findClass RX7 = some m.cls := findClass_of_methodNamed B.named
  have hlocks := B.notSynchronized
  have hl := lv_entry ([.int x0]) (n := 1) (Nat.le_of_ble_eq_true rfl)
  rw [lg_entry_eq]
  generalize (lg_sl ([.int x0]) ++ List.replicate (1 - (lg_sl ([.int x0])).length) Slot.unset).toArray = ls at hl ⊢
  replace hl : lv_has ls 1 [(0, .int x0)] := hl
  have h := hf
  unfold f_X7_told at h
  refine lv_iload_n hx hb dX7_told_0 rfl (lv_at hl 0 rfl) ?_
  refine lv_iconst (v := -1) hx hb dX7_told_1 (by decide) ?_
  refine lv_icmp_ne (tgt := 10) hx hb dX7_told_2 (by decide) (fun c2 => ?_) (fun c2 => ?_)
  · replace h := ite_f c2 h
    refine lv_iload_n hx hb dX7_told_10 rfl (lv_at hl 0 rfl) ?_
    replace h := Option.some.inj h
    subst h
    exact W.iret hx hb hr (fun t ht hW => ⟨_, rfl, rfl, ht⟩) (fun q hq => by cases hq) dX7_told_11
  · replace h := ite_t c2 h
    refine lv_bipush (v := -6) hx hb dX7_told_5 (by decide) ?_
    refine lv_goto (tgt := 11) hx hb dX7_told_7 (by decide) ?_
    replace h := Option.some.inj h
    subst h
    exact W.iret hx hb hr (fun t ht hW => ⟨_, rfl, rfl, ht⟩) (fun q hq => by cases hq) dX7_told_11
theorem pd_J6_numberOfTrailingZeros_0f7a4 : yJ6_numberOfTrailingZeros_0f7a4.cls ≠ "java/lang/invoke/MethodHandle" ∧ yJ6_numberOfTrailingZeros_0f7a4.cls ≠ "java/lang/invoke/VarHandle" ∧ (parseMethodDescriptor yJ6_numberOfTrailingZeros_0f7a4.desc).map (fun d => d.parameters.length) = some 1 := by decide +kernel
def f_J6_numberOfTrailingZeros_0f7a4 (x0 : Int32) : Option (Int32) :=
  (nm ((x0 ^^^ (-1 : Int32)) &&& (x0 - (1 : Int32))) fun z7 => (if (0 : Int32) < z7 then (if z7 ≤ (65536 : Int32) then (if z7 ≤ (256 : Int32) then (if z7 ≤ (16 : Int32) then (if z7 ≤ (4 : Int32) then (some ((1 : Int32) + ((z7.toUInt32 >>> ((1 : Int32).toUInt32 &&& Int32.toUInt32 31)).toInt32))) else (nm ((z7.toUInt32 >>> ((2 : Int32).toUInt32 &&& Int32.toUInt32 31)).toInt32) fun z73 => (some ((3 : Int32) + ((z73.toUInt32 >>> ((1 : Int32).toUInt32 &&& Int32.toUInt32 31)).toInt32))))) else (nm ((z7.toUInt32 >>> ((4 : Int32).toUInt32 &&& Int32.toUInt32 31)).toInt32) fun z61 => (if z61 ≤ (4 : Int32) then (some ((5 : Int32) + ((z61.toUInt32 >>> ((1 : Int32).toUInt32 &&& Int32.toUInt32 31)).toInt32))) else (nm ((z61.toUInt32 >>> ((2 : Int32).toUInt32 &&& Int32.toUInt32 31)).toInt32) fun z73 => (some ((7 : Int32) + ((z73.toUInt32 >>> ((1 : Int32).toUInt32 &&& Int32.toUInt32 31)).toInt32))))))) else (nm ((z7.toUInt32 >>> ((8 : Int32).toUInt32 &&& Int32.toUInt32 31)).toInt32) fun z48 => (if z48 ≤ (16 : Int32) then (if z48 ≤ (4 : Int32) then (some ((9 : Int32) + ((z48.toUInt32 >>> ((1 : Int32).toUInt32 &&& Int32.toUInt32 31)).toInt32))) else (nm ((z48.toUInt32 >>> ((2 : Int32).toUInt32 &&& Int32.toUInt32 31)).toInt32) fun z73 => (some ((11 : Int32) + ((z73.toUInt32 >>> ((1 : Int32).toUInt32 &&& Int32.toUInt32 31)).toInt32))))) else (nm ((z48.toUInt32 >>> ((4 : Int32).toUInt32 &&& Int32.toUInt32 31)).toInt32) fun z61 => (if z61 ≤ (4 : Int32) then (some ((13 : Int32) + ((z61.toUInt32 >>> ((1 : Int32).toUInt32 &&& Int32.toUInt32 31)).toInt32))) else (nm ((z61.toUInt32 >>> ((2 : Int32).toUInt32 &&& Int32.toUInt32 31)).toInt32) fun z73 => (some ((15 : Int32) + ((z73.toUInt32 >>> ((1 : Int32).toUInt32 &&& Int32.toUInt32 31)).toInt32))))))))) else (nm ((z7.toUInt32 >>> ((16 : Int32).toUInt32 &&& Int32.toUInt32 31)).toInt32) fun z33 => (if z33 ≤ (256 : Int32) then (if z33 ≤ (16 : Int32) then (if z33 ≤ (4 : Int32) then (some ((17 : Int32) + ((z33.toUInt32 >>> ((1 : Int32).toUInt32 &&& Int32.toUInt32 31)).toInt32))) else (nm ((z33.toUInt32 >>> ((2 : Int32).toUInt32 &&& Int32.toUInt32 31)).toInt32) fun z73 => (some ((19 : Int32) + ((z73.toUInt32 >>> ((1 : Int32).toUInt32 &&& Int32.toUInt32 31)).toInt32))))) else (nm ((z33.toUInt32 >>> ((4 : Int32).toUInt32 &&& Int32.toUInt32 31)).toInt32) fun z61 => (if z61 ≤ (4 : Int32) then (some ((21 : Int32) + ((z61.toUInt32 >>> ((1 : Int32).toUInt32 &&& Int32.toUInt32 31)).toInt32))) else (nm ((z61.toUInt32 >>> ((2 : Int32).toUInt32 &&& Int32.toUInt32 31)).toInt32) fun z73 => (some ((23 : Int32) + ((z73.toUInt32 >>> ((1 : Int32).toUInt32 &&& Int32.toUInt32 31)).toInt32))))))) else (nm ((z33.toUInt32 >>> ((8 : Int32).toUInt32 &&& Int32.toUInt32 31)).toInt32) fun z48 => (if z48 ≤ (16 : Int32) then (if z48 ≤ (4 : Int32) then (some ((25 : Int32) + ((z48.toUInt32 >>> ((1 : Int32).toUInt32 &&& Int32.toUInt32 31)).toInt32))) else (nm ((z48.toUInt32 >>> ((2 : Int32).toUInt32 &&& Int32.toUInt32 31)).toInt32) fun z73 => (some ((27 : Int32) + ((z73.toUInt32 >>> ((1 : Int32).toUInt32 &&& Int32.toUInt32 31)).toInt32))))) else (nm ((z48.toUInt32 >>> ((4 : Int32).toUInt32 &&& Int32.toUInt32 31)).toInt32) fun z61 => (if z61 ≤ (4 : Int32) then (some ((29 : Int32) + ((z61.toUInt32 >>> ((1 : Int32).toUInt32 &&& Int32.toUInt32 31)).toInt32))) else (nm ((z61.toUInt32 >>> ((2 : Int32).toUInt32 &&& Int32.toUInt32 31)).toInt32) fun z73 => (some ((31 : Int32) + ((z73.toUInt32 >>> ((1 : Int32).toUInt32 &&& Int32.toUInt32 31)).toInt32))))))))))) else (some (z7 &&& (32 : Int32)))))
set_option maxHeartbeats 4000000 in
set_option maxRecDepth 100000 in
theorem c_J6_numberOfTrailingZeros_0f7a4 (l : Launch) (D : va_G) (g : Nat → ClassId)  (x0 : Int32) (r : Int32) (hf : f_J6_numberOfTrailingZeros_0f7a4 x0 = some r) : CR l yJ6_numberOfTrailingZeros_0f7a4 wsJ6_numberOfTrailingZeros_0f7a4 0 0 D g [.int x0] [] (QRi r) := by
  refine Met.ofW (cc := cJ6_numberOfTrailingZeros_0f7a4) (maxL := 2) (ret := (some .int)) (by decide) rfl ?_
  intro p e s m args below meth c s₁ B hml hv
  obtain ⟨rfl, hP, hK⟩ := hv
  have hx := B.exec
  have hb := B.bytes
  have hr := B.returns
  have hts := atoms_spec (ws := wsJ6_numberOfTrailingZeros_0f7a4) B.pre
  have hown : s.vm.findClass RJ6 = some m.cls := findClass_of_methodNamed B.named
  have hlocks := B.notSynchronized
  have hh0 := hts (.constant RJ6 264 (65536)) (by decide +kernel)
  have hl := lv_entry ([.int x0]) (n := 2) (Nat.le_of_ble_eq_true rfl)
  rw [lg_entry_eq]
  generalize (lg_sl ([.int x0]) ++ List.replicate (2 - (lg_sl ([.int x0])).length) Slot.unset).toArray = ls at hl ⊢
  replace hl : lv_has ls 2 [(0, .int x0)] := hl
  have h := hf
  unfold f_J6_numberOfTrailingZeros_0f7a4 at h
  refine lv_iload_n hx hb dJ6_numberOfTrailingZeros_0f7a4_0 rfl (lv_at hl 0 rfl) ?_
  refine lv_iconst (v := -1) hx hb dJ6_numberOfTrailingZeros_0f7a4_1 (by decide) ?_
  refine lv_ixor hx hb dJ6_numberOfTrailingZeros_0f7a4_2 ?_
  refine lv_iload_n hx hb dJ6_numberOfTrailingZeros_0f7a4_3 rfl (lv_at hl 0 rfl) ?_
  refine lv_iconst (v := 1) hx hb dJ6_numberOfTrailingZeros_0f7a4_4 (by decide) ?_
  refine lv_isub hx hb dJ6_numberOfTrailingZeros_0f7a4_5 ?_
  refine lv_iand hx hb dJ6_numberOfTrailingZeros_0f7a4_6 ?_
  refine lv_topi (fun z7 ez7 => ?_)
  replace h := nm_n h ez7
  refine lv_istore_n (lv' := [(0, .int z7)]) hx hb dJ6_numberOfTrailingZeros_0f7a4_7 rfl hl (by decide) rfl (fun ls hl => ?_)
  refine lv_iload_n hx hb dJ6_numberOfTrailingZeros_0f7a4_8 rfl (lv_at hl 0 rfl) ?_
  refine lv_if_gt (tgt := 17) hx hb dJ6_numberOfTrailingZeros_0f7a4_9 (by decide) (fun c9 => ?_) (fun c9 => ?_)
  · replace h := ite_t c9 h
    refine lv_iconst (v := 1) hx hb dJ6_numberOfTrailingZeros_0f7a4_17 (by decide) ?_
    refine lv_istore_n (lv' := [(1, .int (1 : Int32)), (0, .int z7)]) hx hb dJ6_numberOfTrailingZeros_0f7a4_18 rfl hl (by decide) rfl (fun ls hl => ?_)
    refine lv_iload_n hx hb dJ6_numberOfTrailingZeros_0f7a4_19 rfl (lv_at hl 1 rfl) ?_
    refine lv_ldcw hx hb hown hh0 dJ6_numberOfTrailingZeros_0f7a4_20 ?_
    refine lv_icmp_le (tgt := 34) hx hb dJ6_numberOfTrailingZeros_0f7a4_23 (by decide) (fun c23 => ?_) (fun c23 => ?_)
    · replace h := ite_t c23 h
      refine lv_iload_n hx hb dJ6_numberOfTrailingZeros_0f7a4_34 rfl (lv_at hl 1 rfl) ?_
      refine lv_sipush (v := 256) hx hb dJ6_numberOfTrailingZeros_0f7a4_35 (by decide) ?_
      refine lv_icmp_le (tgt := 49) hx hb dJ6_numberOfTrailingZeros_0f7a4_38 (by decide) (fun c38 => ?_) (fun c38 => ?_)
      · replace h := ite_t c38 h
        refine lv_iload_n hx hb dJ6_numberOfTrailingZeros_0f7a4_49 rfl (lv_at hl 1 rfl) ?_
        refine lv_bipush (v := 16) hx hb dJ6_numberOfTrailingZeros_0f7a4_50 (by decide) ?_
        refine lv_icmp_le (tgt := 62) hx hb dJ6_numberOfTrailingZeros_0f7a4_52 (by decide) (fun c52 => ?_) (fun c52 => ?_)
        · replace h := ite_t c52 h
          refine lv_iload_n hx hb dJ6_numberOfTrailingZeros_0f7a4_62 rfl (lv_at hl 1 rfl) ?_
          refine lv_iconst (v := 4) hx hb dJ6_numberOfTrailingZeros_0f7a4_63 (by decide) ?_
          refine lv_icmp_le (tgt := 74) hx hb dJ6_numberOfTrailingZeros_0f7a4_64 (by decide) (fun c64 => ?_) (fun c64 => ?_)
          · replace h := ite_t c64 h
            refine lv_iload_n hx hb dJ6_numberOfTrailingZeros_0f7a4_74 rfl (lv_at hl 0 rfl) ?_
            refine lv_iload_n hx hb dJ6_numberOfTrailingZeros_0f7a4_75 rfl (lv_at hl 1 rfl) ?_
            refine lv_iconst (v := 1) hx hb dJ6_numberOfTrailingZeros_0f7a4_76 (by decide) ?_
            refine lv_iushr (v := (z7.toUInt32 >>> ((1 : Int32).toUInt32 &&& Int32.toUInt32 31)).toInt32) hx hb dJ6_numberOfTrailingZeros_0f7a4_77 rfl ?_
            refine lv_iadd hx hb dJ6_numberOfTrailingZeros_0f7a4_78 ?_
            replace h := Option.some.inj h
            subst h
            exact W.iret hx hb hr (fun t ht hW => ⟨_, rfl, rfl, ht⟩) (fun q hq => by cases hq) dJ6_numberOfTrailingZeros_0f7a4_79
          · replace h := ite_f c64 h
            refine lv_iinc (v := (3 : Int32)) (lv' := [(1, .int (3 : Int32)), (0, .int z7)]) hx hb dJ6_numberOfTrailingZeros_0f7a4_67 hl (k := 0) rfl (by decide) (by decide) rfl (fun ls hl => ?_)
            refine lv_iload_n hx hb dJ6_numberOfTrailingZeros_0f7a4_70 rfl (lv_at hl 1 rfl) ?_
            refine lv_iconst (v := 2) hx hb dJ6_numberOfTrailingZeros_0f7a4_71 (by decide) ?_
            refine lv_iushr (v := (z7.toUInt32 >>> ((2 : Int32).toUInt32 &&& Int32.toUInt32 31)).toInt32) hx hb dJ6_numberOfTrailingZeros_0f7a4_72 rfl ?_
            refine lv_topi (fun z73 ez73 => ?_)
            replace h := nm_n h ez73
            refine lv_istore_n (lv' := [(0, .int z73), (1, .int (3 : Int32))]) hx hb dJ6_numberOfTrailingZeros_0f7a4_73 rfl hl (by decide) rfl (fun ls hl => ?_)
            refine lv_iload_n hx hb dJ6_numberOfTrailingZeros_0f7a4_74 rfl (lv_at hl 1 rfl) ?_
            refine lv_iload_n hx hb dJ6_numberOfTrailingZeros_0f7a4_75 rfl (lv_at hl 0 rfl) ?_
            refine lv_iconst (v := 1) hx hb dJ6_numberOfTrailingZeros_0f7a4_76 (by decide) ?_
            refine lv_iushr (v := (z73.toUInt32 >>> ((1 : Int32).toUInt32 &&& Int32.toUInt32 31)).toInt32) hx hb dJ6_numberOfTrailingZeros_0f7a4_77 rfl ?_
            refine lv_iadd hx hb dJ6_numberOfTrailingZeros_0f7a4_78 ?_
            replace h := Option.some.inj h
            subst h
            exact W.iret hx hb hr (fun t ht hW => ⟨_, rfl, rfl, ht⟩) (fun q hq => by cases hq) dJ6_numberOfTrailingZeros_0f7a4_79
        · replace h := ite_f c52 h
          refine lv_iinc (v := (5 : Int32)) (lv' := [(1, .int (5 : Int32)), (0, .int z7)]) hx hb dJ6_numberOfTrailingZeros_0f7a4_55 hl (k := 0) rfl (by decide) (by decide) rfl (fun ls hl => ?_)
          refine lv_iload_n hx hb dJ6_numberOfTrailingZeros_0f7a4_58 rfl (lv_at hl 1 rfl) ?_
          refine lv_iconst (v := 4) hx hb dJ6_numberOfTrailingZeros_0f7a4_59 (by decide) ?_
          refine lv_iushr (v := (z7.toUInt32 >>> ((4 : Int32).toUInt32 &&& Int32.toUInt32 31)).toInt32) hx hb dJ6_numberOfTrailingZeros_0f7a4_60 rfl ?_
          refine lv_topi (fun z61 ez61 => ?_)
          replace h := nm_n h ez61
          refine lv_istore_n (lv' := [(0, .int z61), (1, .int (5 : Int32))]) hx hb dJ6_numberOfTrailingZeros_0f7a4_61 rfl hl (by decide) rfl (fun ls hl => ?_)
          refine lv_iload_n hx hb dJ6_numberOfTrailingZeros_0f7a4_62 rfl (lv_at hl 0 rfl) ?_
          refine lv_iconst (v := 4) hx hb dJ6_numberOfTrailingZeros_0f7a4_63 (by decide) ?_
          refine lv_icmp_le (tgt := 74) hx hb dJ6_numberOfTrailingZeros_0f7a4_64 (by decide) (fun c64 => ?_) (fun c64 => ?_)
          · replace h := ite_t c64 h
            refine lv_iload_n hx hb dJ6_numberOfTrailingZeros_0f7a4_74 rfl (lv_at hl 1 rfl) ?_
            refine lv_iload_n hx hb dJ6_numberOfTrailingZeros_0f7a4_75 rfl (lv_at hl 0 rfl) ?_
            refine lv_iconst (v := 1) hx hb dJ6_numberOfTrailingZeros_0f7a4_76 (by decide) ?_
            refine lv_iushr (v := (z61.toUInt32 >>> ((1 : Int32).toUInt32 &&& Int32.toUInt32 31)).toInt32) hx hb dJ6_numberOfTrailingZeros_0f7a4_77 rfl ?_
            refine lv_iadd hx hb dJ6_numberOfTrailingZeros_0f7a4_78 ?_
            replace h := Option.some.inj h
            subst h
            exact W.iret hx hb hr (fun t ht hW => ⟨_, rfl, rfl, ht⟩) (fun q hq => by cases hq) dJ6_numberOfTrailingZeros_0f7a4_79
          · replace h := ite_f c64 h
            refine lv_iinc (v := (7 : Int32)) (lv' := [(1, .int (7 : Int32)), (0, .int z61)]) hx hb dJ6_numberOfTrailingZeros_0f7a4_67 hl (k := 1) rfl (by decide) (by decide) rfl (fun ls hl => ?_)
            refine lv_iload_n hx hb dJ6_numberOfTrailingZeros_0f7a4_70 rfl (lv_at hl 1 rfl) ?_
            refine lv_iconst (v := 2) hx hb dJ6_numberOfTrailingZeros_0f7a4_71 (by decide) ?_
            refine lv_iushr (v := (z61.toUInt32 >>> ((2 : Int32).toUInt32 &&& Int32.toUInt32 31)).toInt32) hx hb dJ6_numberOfTrailingZeros_0f7a4_72 rfl ?_
            refine lv_topi (fun z73 ez73 => ?_)
            replace h := nm_n h ez73
            refine lv_istore_n (lv' := [(0, .int z73), (1, .int (7 : Int32))]) hx hb dJ6_numberOfTrailingZeros_0f7a4_73 rfl hl (by decide) rfl (fun ls hl => ?_)
            refine lv_iload_n hx hb dJ6_numberOfTrailingZeros_0f7a4_74 rfl (lv_at hl 1 rfl) ?_
            refine lv_iload_n hx hb dJ6_numberOfTrailingZeros_0f7a4_75 rfl (lv_at hl 0 rfl) ?_
            refine lv_iconst (v := 1) hx hb dJ6_numberOfTrailingZeros_0f7a4_76 (by decide) ?_
            refine lv_iushr (v := (z73.toUInt32 >>> ((1 : Int32).toUInt32 &&& Int32.toUInt32 31)).toInt32) hx hb dJ6_numberOfTrailingZeros_0f7a4_77 rfl ?_
            refine lv_iadd hx hb dJ6_numberOfTrailingZeros_0f7a4_78 ?_
            replace h := Option.some.inj h
            subst h
            exact W.iret hx hb hr (fun t ht hW => ⟨_, rfl, rfl, ht⟩) (fun q hq => by cases hq) dJ6_numberOfTrailingZeros_0f7a4_79
      · replace h := ite_f c38 h
        refine lv_iinc (v := (9 : Int32)) (lv' := [(1, .int (9 : Int32)), (0, .int z7)]) hx hb dJ6_numberOfTrailingZeros_0f7a4_41 hl (k := 0) rfl (by decide) (by decide) rfl (fun ls hl => ?_)
        refine lv_iload_n hx hb dJ6_numberOfTrailingZeros_0f7a4_44 rfl (lv_at hl 1 rfl) ?_
        refine lv_bipush (v := 8) hx hb dJ6_numberOfTrailingZeros_0f7a4_45 (by decide) ?_
        refine lv_iushr (v := (z7.toUInt32 >>> ((8 : Int32).toUInt32 &&& Int32.toUInt32 31)).toInt32) hx hb dJ6_numberOfTrailingZeros_0f7a4_47 rfl ?_
        refine lv_topi (fun z48 ez48 => ?_)
        replace h := nm_n h ez48
        refine lv_istore_n (lv' := [(0, .int z48), (1, .int (9 : Int32))]) hx hb dJ6_numberOfTrailingZeros_0f7a4_48 rfl hl (by decide) rfl (fun ls hl => ?_)
        refine lv_iload_n hx hb dJ6_numberOfTrailingZeros_0f7a4_49 rfl (lv_at hl 0 rfl) ?_
        refine lv_bipush (v := 16) hx hb dJ6_numberOfTrailingZeros_0f7a4_50 (by decide) ?_
        refine lv_icmp_le (tgt := 62) hx hb dJ6_numberOfTrailingZeros_0f7a4_52 (by decide) (fun c52 => ?_) (fun c52 => ?_)
        · replace h := ite_t c52 h
          refine lv_iload_n hx hb dJ6_numberOfTrailingZeros_0f7a4_62 rfl (lv_at hl 0 rfl) ?_
          refine lv_iconst (v := 4) hx hb dJ6_numberOfTrailingZeros_0f7a4_63 (by decide) ?_
          refine lv_icmp_le (tgt := 74) hx hb dJ6_numberOfTrailingZeros_0f7a4_64 (by decide) (fun c64 => ?_) (fun c64 => ?_)
          · replace h := ite_t c64 h
            refine lv_iload_n hx hb dJ6_numberOfTrailingZeros_0f7a4_74 rfl (lv_at hl 1 rfl) ?_
            refine lv_iload_n hx hb dJ6_numberOfTrailingZeros_0f7a4_75 rfl (lv_at hl 0 rfl) ?_
            refine lv_iconst (v := 1) hx hb dJ6_numberOfTrailingZeros_0f7a4_76 (by decide) ?_
            refine lv_iushr (v := (z48.toUInt32 >>> ((1 : Int32).toUInt32 &&& Int32.toUInt32 31)).toInt32) hx hb dJ6_numberOfTrailingZeros_0f7a4_77 rfl ?_
            refine lv_iadd hx hb dJ6_numberOfTrailingZeros_0f7a4_78 ?_
            replace h := Option.some.inj h
            subst h
            exact W.iret hx hb hr (fun t ht hW => ⟨_, rfl, rfl, ht⟩) (fun q hq => by cases hq) dJ6_numberOfTrailingZeros_0f7a4_79
          · replace h := ite_f c64 h
            refine lv_iinc (v := (11 : Int32)) (lv' := [(1, .int (11 : Int32)), (0, .int z48)]) hx hb dJ6_numberOfTrailingZeros_0f7a4_67 hl (k := 1) rfl (by decide) (by decide) rfl (fun ls hl => ?_)
            refine lv_iload_n hx hb dJ6_numberOfTrailingZeros_0f7a4_70 rfl (lv_at hl 1 rfl) ?_
            refine lv_iconst (v := 2) hx hb dJ6_numberOfTrailingZeros_0f7a4_71 (by decide) ?_
            refine lv_iushr (v := (z48.toUInt32 >>> ((2 : Int32).toUInt32 &&& Int32.toUInt32 31)).toInt32) hx hb dJ6_numberOfTrailingZeros_0f7a4_72 rfl ?_
            refine lv_topi (fun z73 ez73 => ?_)
            replace h := nm_n h ez73
            refine lv_istore_n (lv' := [(0, .int z73), (1, .int (11 : Int32))]) hx hb dJ6_numberOfTrailingZeros_0f7a4_73 rfl hl (by decide) rfl (fun ls hl => ?_)
            refine lv_iload_n hx hb dJ6_numberOfTrailingZeros_0f7a4_74 rfl (lv_at hl 1 rfl) ?_
            refine lv_iload_n hx hb dJ6_numberOfTrailingZeros_0f7a4_75 rfl (lv_at hl 0 rfl) ?_
            refine lv_iconst (v := 1) hx hb dJ6_numberOfTrailingZeros_0f7a4_76 (by decide) ?_
            refine lv_iushr (v := (z73.toUInt32 >>> ((1 : Int32).toUInt32 &&& Int32.toUInt32 31)).toInt32) hx hb dJ6_numberOfTrailingZeros_0f7a4_77 rfl ?_
            refine lv_iadd hx hb dJ6_numberOfTrailingZeros_0f7a4_78 ?_
            replace h := Option.some.inj h
            subst h
            exact W.iret hx hb hr (fun t ht hW => ⟨_, rfl, rfl, ht⟩) (fun q hq => by cases hq) dJ6_numberOfTrailingZeros_0f7a4_79
        · replace h := ite_f c52 h
          refine lv_iinc (v := (13 : Int32)) (lv' := [(1, .int (13 : Int32)), (0, .int z48)]) hx hb dJ6_numberOfTrailingZeros_0f7a4_55 hl (k := 1) rfl (by decide) (by decide) rfl (fun ls hl => ?_)
          refine lv_iload_n hx hb dJ6_numberOfTrailingZeros_0f7a4_58 rfl (lv_at hl 1 rfl) ?_
          refine lv_iconst (v := 4) hx hb dJ6_numberOfTrailingZeros_0f7a4_59 (by decide) ?_
          refine lv_iushr (v := (z48.toUInt32 >>> ((4 : Int32).toUInt32 &&& Int32.toUInt32 31)).toInt32) hx hb dJ6_numberOfTrailingZeros_0f7a4_60 rfl ?_
          refine lv_topi (fun z61 ez61 => ?_)
          replace h := nm_n h ez61
          refine lv_istore_n (lv' := [(0, .int z61), (1, .int (13 : Int32))]) hx hb dJ6_numberOfTrailingZeros_0f7a4_61 rfl hl (by decide) rfl (fun ls hl => ?_)
          refine lv_iload_n hx hb dJ6_numberOfTrailingZeros_0f7a4_62 rfl (lv_at hl 0 rfl) ?_
          refine lv_iconst (v := 4) hx hb dJ6_numberOfTrailingZeros_0f7a4_63 (by decide) ?_
          refine lv_icmp_le (tgt := 74) hx hb dJ6_numberOfTrailingZeros_0f7a4_64 (by decide) (fun c64 => ?_) (fun c64 => ?_)
          · replace h := ite_t c64 h
            refine lv_iload_n hx hb dJ6_numberOfTrailingZeros_0f7a4_74 rfl (lv_at hl 1 rfl) ?_
            refine lv_iload_n hx hb dJ6_numberOfTrailingZeros_0f7a4_75 rfl (lv_at hl 0 rfl) ?_
            refine lv_iconst (v := 1) hx hb dJ6_numberOfTrailingZeros_0f7a4_76 (by decide) ?_
            refine lv_iushr (v := (z61.toUInt32 >>> ((1 : Int32).toUInt32 &&& Int32.toUInt32 31)).toInt32) hx hb dJ6_numberOfTrailingZeros_0f7a4_77 rfl ?_
            refine lv_iadd hx hb dJ6_numberOfTrailingZeros_0f7a4_78 ?_
            replace h := Option.some.inj h
            subst h
            exact W.iret hx hb hr (fun t ht hW => ⟨_, rfl, rfl, ht⟩) (fun q hq => by cases hq) dJ6_numberOfTrailingZeros_0f7a4_79
          · replace h := ite_f c64 h
            refine lv_iinc (v := (15 : Int32)) (lv' := [(1, .int (15 : Int32)), (0, .int z61)]) hx hb dJ6_numberOfTrailingZeros_0f7a4_67 hl (k := 1) rfl (by decide) (by decide) rfl (fun ls hl => ?_)
            refine lv_iload_n hx hb dJ6_numberOfTrailingZeros_0f7a4_70 rfl (lv_at hl 1 rfl) ?_
            refine lv_iconst (v := 2) hx hb dJ6_numberOfTrailingZeros_0f7a4_71 (by decide) ?_
            refine lv_iushr (v := (z61.toUInt32 >>> ((2 : Int32).toUInt32 &&& Int32.toUInt32 31)).toInt32) hx hb dJ6_numberOfTrailingZeros_0f7a4_72 rfl ?_
            refine lv_topi (fun z73 ez73 => ?_)
            replace h := nm_n h ez73
            refine lv_istore_n (lv' := [(0, .int z73), (1, .int (15 : Int32))]) hx hb dJ6_numberOfTrailingZeros_0f7a4_73 rfl hl (by decide) rfl (fun ls hl => ?_)
            refine lv_iload_n hx hb dJ6_numberOfTrailingZeros_0f7a4_74 rfl (lv_at hl 1 rfl) ?_
            refine lv_iload_n hx hb dJ6_numberOfTrailingZeros_0f7a4_75 rfl (lv_at hl 0 rfl) ?_
            refine lv_iconst (v := 1) hx hb dJ6_numberOfTrailingZeros_0f7a4_76 (by decide) ?_
            refine lv_iushr (v := (z73.toUInt32 >>> ((1 : Int32).toUInt32 &&& Int32.toUInt32 31)).toInt32) hx hb dJ6_numberOfTrailingZeros_0f7a4_77 rfl ?_
            refine lv_iadd hx hb dJ6_numberOfTrailingZeros_0f7a4_78 ?_
            replace h := Option.some.inj h
            subst h
            exact W.iret hx hb hr (fun t ht hW => ⟨_, rfl, rfl, ht⟩) (fun q hq => by cases hq) dJ6_numberOfTrailingZeros_0f7a4_79
    · replace h := ite_f c23 h
      refine lv_iinc (v := (17 : Int32)) (lv' := [(1, .int (17 : Int32)), (0, .int z7)]) hx hb dJ6_numberOfTrailingZeros_0f7a4_26 hl (k := 0) rfl (by decide) (by decide) rfl (fun ls hl => ?_)
      refine lv_iload_n hx hb dJ6_numberOfTrailingZeros_0f7a4_29 rfl (lv_at hl 1 rfl) ?_
      refine lv_bipush (v := 16) hx hb dJ6_numberOfTrailingZeros_0f7a4_30 (by decide) ?_
      refine lv_iushr (v := (z7.toUInt32 >>> ((16 : Int32).toUInt32 &&& Int32.toUInt32 31)).toInt32) hx hb dJ6_numberOfTrailingZeros_0f7a4_32 rfl ?_
      refine lv_topi (fun z33 ez33 => ?_)
      replace h := nm_n h ez33
      refine lv_istore_n (lv' := [(0, .int z33), (1, .int (17 : Int32))]) hx hb dJ6_numberOfTrailingZeros_0f7a4_33 rfl hl (by decide) rfl (fun ls hl => ?_)
      refine lv_iload_n hx hb dJ6_numberOfTrailingZeros_0f7a4_34 rfl (lv_at hl 0 rfl) ?_
      refine lv_sipush (v := 256) hx hb dJ6_numberOfTrailingZeros_0f7a4_35 (by decide) ?_
      refine lv_icmp_le (tgt := 49) hx hb dJ6_numberOfTrailingZeros_0f7a4_38 (by decide) (fun c38 => ?_) (fun c38 => ?_)
      · replace h := ite_t c38 h
        refine lv_iload_n hx hb dJ6_numberOfTrailingZeros_0f7a4_49 rfl (lv_at hl 0 rfl) ?_
        refine lv_bipush (v := 16) hx hb dJ6_numberOfTrailingZeros_0f7a4_50 (by decide) ?_
        refine lv_icmp_le (tgt := 62) hx hb dJ6_numberOfTrailingZeros_0f7a4_52 (by decide) (fun c52 => ?_) (fun c52 => ?_)
        · replace h := ite_t c52 h
          refine lv_iload_n hx hb dJ6_numberOfTrailingZeros_0f7a4_62 rfl (lv_at hl 0 rfl) ?_
          refine lv_iconst (v := 4) hx hb dJ6_numberOfTrailingZeros_0f7a4_63 (by decide) ?_
          refine lv_icmp_le (tgt := 74) hx hb dJ6_numberOfTrailingZeros_0f7a4_64 (by decide) (fun c64 => ?_) (fun c64 => ?_)
          · replace h := ite_t c64 h
            refine lv_iload_n hx hb dJ6_numberOfTrailingZeros_0f7a4_74 rfl (lv_at hl 1 rfl) ?_
            refine lv_iload_n hx hb dJ6_numberOfTrailingZeros_0f7a4_75 rfl (lv_at hl 0 rfl) ?_
            refine lv_iconst (v := 1) hx hb dJ6_numberOfTrailingZeros_0f7a4_76 (by decide) ?_
            refine lv_iushr (v := (z33.toUInt32 >>> ((1 : Int32).toUInt32 &&& Int32.toUInt32 31)).toInt32) hx hb dJ6_numberOfTrailingZeros_0f7a4_77 rfl ?_
            refine lv_iadd hx hb dJ6_numberOfTrailingZeros_0f7a4_78 ?_
            replace h := Option.some.inj h
            subst h
            exact W.iret hx hb hr (fun t ht hW => ⟨_, rfl, rfl, ht⟩) (fun q hq => by cases hq) dJ6_numberOfTrailingZeros_0f7a4_79
          · replace h := ite_f c64 h
            refine lv_iinc (v := (19 : Int32)) (lv' := [(1, .int (19 : Int32)), (0, .int z33)]) hx hb dJ6_numberOfTrailingZeros_0f7a4_67 hl (k := 1) rfl (by decide) (by decide) rfl (fun ls hl => ?_)
            refine lv_iload_n hx hb dJ6_numberOfTrailingZeros_0f7a4_70 rfl (lv_at hl 1 rfl) ?_
            refine lv_iconst (v := 2) hx hb dJ6_numberOfTrailingZeros_0f7a4_71 (by decide) ?_
            refine lv_iushr (v := (z33.toUInt32 >>> ((2 : Int32).toUInt32 &&& Int32.toUInt32 31)).toInt32) hx hb dJ6_numberOfTrailingZeros_0f7a4_72 rfl ?_
            refine lv_topi (fun z73 ez73 => ?_)
            replace h := nm_n h ez73
            refine lv_istore_n (lv' := [(0, .int z73), (1, .int (19 : Int32))]) hx hb dJ6_numberOfTrailingZeros_0f7a4_73 rfl hl (by decide) rfl (fun ls hl => ?_)
            refine lv_iload_n hx hb dJ6_numberOfTrailingZeros_0f7a4_74 rfl (lv_at hl 1 rfl) ?_
            refine lv_iload_n hx hb dJ6_numberOfTrailingZeros_0f7a4_75 rfl (lv_at hl 0 rfl) ?_
            refine lv_iconst (v := 1) hx hb dJ6_numberOfTrailingZeros_0f7a4_76 (by decide) ?_
            refine lv_iushr (v := (z73.toUInt32 >>> ((1 : Int32).toUInt32 &&& Int32.toUInt32 31)).toInt32) hx hb dJ6_numberOfTrailingZeros_0f7a4_77 rfl ?_
            refine lv_iadd hx hb dJ6_numberOfTrailingZeros_0f7a4_78 ?_
            replace h := Option.some.inj h
            subst h
            exact W.iret hx hb hr (fun t ht hW => ⟨_, rfl, rfl, ht⟩) (fun q hq => by cases hq) dJ6_numberOfTrailingZeros_0f7a4_79
        · replace h := ite_f c52 h
          refine lv_iinc (v := (21 : Int32)) (lv' := [(1, .int (21 : Int32)), (0, .int z33)]) hx hb dJ6_numberOfTrailingZeros_0f7a4_55 hl (k := 1) rfl (by decide) (by decide) rfl (fun ls hl => ?_)
          refine lv_iload_n hx hb dJ6_numberOfTrailingZeros_0f7a4_58 rfl (lv_at hl 1 rfl) ?_
          refine lv_iconst (v := 4) hx hb dJ6_numberOfTrailingZeros_0f7a4_59 (by decide) ?_
          refine lv_iushr (v := (z33.toUInt32 >>> ((4 : Int32).toUInt32 &&& Int32.toUInt32 31)).toInt32) hx hb dJ6_numberOfTrailingZeros_0f7a4_60 rfl ?_
          refine lv_topi (fun z61 ez61 => ?_)
          replace h := nm_n h ez61
          refine lv_istore_n (lv' := [(0, .int z61), (1, .int (21 : Int32))]) hx hb dJ6_numberOfTrailingZeros_0f7a4_61 rfl hl (by decide) rfl (fun ls hl => ?_)
          refine lv_iload_n hx hb dJ6_numberOfTrailingZeros_0f7a4_62 rfl (lv_at hl 0 rfl) ?_
          refine lv_iconst (v := 4) hx hb dJ6_numberOfTrailingZeros_0f7a4_63 (by decide) ?_
          refine lv_icmp_le (tgt := 74) hx hb dJ6_numberOfTrailingZeros_0f7a4_64 (by decide) (fun c64 => ?_) (fun c64 => ?_)
          · replace h := ite_t c64 h
            refine lv_iload_n hx hb dJ6_numberOfTrailingZeros_0f7a4_74 rfl (lv_at hl 1 rfl) ?_
            refine lv_iload_n hx hb dJ6_numberOfTrailingZeros_0f7a4_75 rfl (lv_at hl 0 rfl) ?_
            refine lv_iconst (v := 1) hx hb dJ6_numberOfTrailingZeros_0f7a4_76 (by decide) ?_
            refine lv_iushr (v := (z61.toUInt32 >>> ((1 : Int32).toUInt32 &&& Int32.toUInt32 31)).toInt32) hx hb dJ6_numberOfTrailingZeros_0f7a4_77 rfl ?_
            refine lv_iadd hx hb dJ6_numberOfTrailingZeros_0f7a4_78 ?_
            replace h := Option.some.inj h
            subst h
            exact W.iret hx hb hr (fun t ht hW => ⟨_, rfl, rfl, ht⟩) (fun q hq => by cases hq) dJ6_numberOfTrailingZeros_0f7a4_79
          · replace h := ite_f c64 h
            refine lv_iinc (v := (23 : Int32)) (lv' := [(1, .int (23 : Int32)), (0, .int z61)]) hx hb dJ6_numberOfTrailingZeros_0f7a4_67 hl (k := 1) rfl (by decide) (by decide) rfl (fun ls hl => ?_)
            refine lv_iload_n hx hb dJ6_numberOfTrailingZeros_0f7a4_70 rfl (lv_at hl 1 rfl) ?_
            refine lv_iconst (v := 2) hx hb dJ6_numberOfTrailingZeros_0f7a4_71 (by decide) ?_
            refine lv_iushr (v := (z61.toUInt32 >>> ((2 : Int32).toUInt32 &&& Int32.toUInt32 31)).toInt32) hx hb dJ6_numberOfTrailingZeros_0f7a4_72 rfl ?_
            refine lv_topi (fun z73 ez73 => ?_)
            replace h := nm_n h ez73
            refine lv_istore_n (lv' := [(0, .int z73), (1, .int (23 : Int32))]) hx hb dJ6_numberOfTrailingZeros_0f7a4_73 rfl hl (by decide) rfl (fun ls hl => ?_)
            refine lv_iload_n hx hb dJ6_numberOfTrailingZeros_0f7a4_74 rfl (lv_at hl 1 rfl) ?_
            refine lv_iload_n hx hb dJ6_numberOfTrailingZeros_0f7a4_75 rfl (lv_at hl 0 rfl) ?_
            refine lv_iconst (v := 1) hx hb dJ6_numberOfTrailingZeros_0f7a4_76 (by decide) ?_
            refine lv_iushr (v := (z73.toUInt32 >>> ((1 : Int32).toUInt32 &&& Int32.toUInt32 31)).toInt32) hx hb dJ6_numberOfTrailingZeros_0f7a4_77 rfl ?_
            refine lv_iadd hx hb dJ6_numberOfTrailingZeros_0f7a4_78 ?_
            replace h := Option.some.inj h
            subst h
            exact W.iret hx hb hr (fun t ht hW => ⟨_, rfl, rfl, ht⟩) (fun q hq => by cases hq) dJ6_numberOfTrailingZeros_0f7a4_79
      · replace h := ite_f c38 h
        refine lv_iinc (v := (25 : Int32)) (lv' := [(1, .int (25 : Int32)), (0, .int z33)]) hx hb dJ6_numberOfTrailingZeros_0f7a4_41 hl (k := 1) rfl (by decide) (by decide) rfl (fun ls hl => ?_)
        refine lv_iload_n hx hb dJ6_numberOfTrailingZeros_0f7a4_44 rfl (lv_at hl 1 rfl) ?_
        refine lv_bipush (v := 8) hx hb dJ6_numberOfTrailingZeros_0f7a4_45 (by decide) ?_
        refine lv_iushr (v := (z33.toUInt32 >>> ((8 : Int32).toUInt32 &&& Int32.toUInt32 31)).toInt32) hx hb dJ6_numberOfTrailingZeros_0f7a4_47 rfl ?_
        refine lv_topi (fun z48 ez48 => ?_)
        replace h := nm_n h ez48
        refine lv_istore_n (lv' := [(0, .int z48), (1, .int (25 : Int32))]) hx hb dJ6_numberOfTrailingZeros_0f7a4_48 rfl hl (by decide) rfl (fun ls hl => ?_)
        refine lv_iload_n hx hb dJ6_numberOfTrailingZeros_0f7a4_49 rfl (lv_at hl 0 rfl) ?_
        refine lv_bipush (v := 16) hx hb dJ6_numberOfTrailingZeros_0f7a4_50 (by decide) ?_
        refine lv_icmp_le (tgt := 62) hx hb dJ6_numberOfTrailingZeros_0f7a4_52 (by decide) (fun c52 => ?_) (fun c52 => ?_)
        · replace h := ite_t c52 h
          refine lv_iload_n hx hb dJ6_numberOfTrailingZeros_0f7a4_62 rfl (lv_at hl 0 rfl) ?_
          refine lv_iconst (v := 4) hx hb dJ6_numberOfTrailingZeros_0f7a4_63 (by decide) ?_
          refine lv_icmp_le (tgt := 74) hx hb dJ6_numberOfTrailingZeros_0f7a4_64 (by decide) (fun c64 => ?_) (fun c64 => ?_)
          · replace h := ite_t c64 h
            refine lv_iload_n hx hb dJ6_numberOfTrailingZeros_0f7a4_74 rfl (lv_at hl 1 rfl) ?_
            refine lv_iload_n hx hb dJ6_numberOfTrailingZeros_0f7a4_75 rfl (lv_at hl 0 rfl) ?_
            refine lv_iconst (v := 1) hx hb dJ6_numberOfTrailingZeros_0f7a4_76 (by decide) ?_
            refine lv_iushr (v := (z48.toUInt32 >>> ((1 : Int32).toUInt32 &&& Int32.toUInt32 31)).toInt32) hx hb dJ6_numberOfTrailingZeros_0f7a4_77 rfl ?_
            refine lv_iadd hx hb dJ6_numberOfTrailingZeros_0f7a4_78 ?_
            replace h := Option.some.inj h
            subst h
            exact W.iret hx hb hr (fun t ht hW => ⟨_, rfl, rfl, ht⟩) (fun q hq => by cases hq) dJ6_numberOfTrailingZeros_0f7a4_79
          · replace h := ite_f c64 h
            refine lv_iinc (v := (27 : Int32)) (lv' := [(1, .int (27 : Int32)), (0, .int z48)]) hx hb dJ6_numberOfTrailingZeros_0f7a4_67 hl (k := 1) rfl (by decide) (by decide) rfl (fun ls hl => ?_)
            refine lv_iload_n hx hb dJ6_numberOfTrailingZeros_0f7a4_70 rfl (lv_at hl 1 rfl) ?_
            refine lv_iconst (v := 2) hx hb dJ6_numberOfTrailingZeros_0f7a4_71 (by decide) ?_
            refine lv_iushr (v := (z48.toUInt32 >>> ((2 : Int32).toUInt32 &&& Int32.toUInt32 31)).toInt32) hx hb dJ6_numberOfTrailingZeros_0f7a4_72 rfl ?_
            refine lv_topi (fun z73 ez73 => ?_)
            replace h := nm_n h ez73
            refine lv_istore_n (lv' := [(0, .int z73), (1, .int (27 : Int32))]) hx hb dJ6_numberOfTrailingZeros_0f7a4_73 rfl hl (by decide) rfl (fun ls hl => ?_)
            refine lv_iload_n hx hb dJ6_numberOfTrailingZeros_0f7a4_74 rfl (lv_at hl 1 rfl) ?_
            refine lv_iload_n hx hb dJ6_numberOfTrailingZeros_0f7a4_75 rfl (lv_at hl 0 rfl) ?_
            refine lv_iconst (v := 1) hx hb dJ6_numberOfTrailingZeros_0f7a4_76 (by decide) ?_
            refine lv_iushr (v := (z73.toUInt32 >>> ((1 : Int32).toUInt32 &&& Int32.toUInt32 31)).toInt32) hx hb dJ6_numberOfTrailingZeros_0f7a4_77 rfl ?_
            refine lv_iadd hx hb dJ6_numberOfTrailingZeros_0f7a4_78 ?_
            replace h := Option.some.inj h
            subst h
            exact W.iret hx hb hr (fun t ht hW => ⟨_, rfl, rfl, ht⟩) (fun q hq => by cases hq) dJ6_numberOfTrailingZeros_0f7a4_79
        · replace h := ite_f c52 h
          refine lv_iinc (v := (29 : Int32)) (lv' := [(1, .int (29 : Int32)), (0, .int z48)]) hx hb dJ6_numberOfTrailingZeros_0f7a4_55 hl (k := 1) rfl (by decide) (by decide) rfl (fun ls hl => ?_)
          refine lv_iload_n hx hb dJ6_numberOfTrailingZeros_0f7a4_58 rfl (lv_at hl 1 rfl) ?_
          refine lv_iconst (v := 4) hx hb dJ6_numberOfTrailingZeros_0f7a4_59 (by decide) ?_
          refine lv_iushr (v := (z48.toUInt32 >>> ((4 : Int32).toUInt32 &&& Int32.toUInt32 31)).toInt32) hx hb dJ6_numberOfTrailingZeros_0f7a4_60 rfl ?_
          refine lv_topi (fun z61 ez61 => ?_)
          replace h := nm_n h ez61
          refine lv_istore_n (lv' := [(0, .int z61), (1, .int (29 : Int32))]) hx hb dJ6_numberOfTrailingZeros_0f7a4_61 rfl hl (by decide) rfl (fun ls hl => ?_)
          refine lv_iload_n hx hb dJ6_numberOfTrailingZeros_0f7a4_62 rfl (lv_at hl 0 rfl) ?_
          refine lv_iconst (v := 4) hx hb dJ6_numberOfTrailingZeros_0f7a4_63 (by decide) ?_
          refine lv_icmp_le (tgt := 74) hx hb dJ6_numberOfTrailingZeros_0f7a4_64 (by decide) (fun c64 => ?_) (fun c64 => ?_)
          · replace h := ite_t c64 h
            refine lv_iload_n hx hb dJ6_numberOfTrailingZeros_0f7a4_74 rfl (lv_at hl 1 rfl) ?_
            refine lv_iload_n hx hb dJ6_numberOfTrailingZeros_0f7a4_75 rfl (lv_at hl 0 rfl) ?_
            refine lv_iconst (v := 1) hx hb dJ6_numberOfTrailingZeros_0f7a4_76 (by decide) ?_
            refine lv_iushr (v := (z61.toUInt32 >>> ((1 : Int32).toUInt32 &&& Int32.toUInt32 31)).toInt32) hx hb dJ6_numberOfTrailingZeros_0f7a4_77 rfl ?_
            refine lv_iadd hx hb dJ6_numberOfTrailingZeros_0f7a4_78 ?_
            replace h := Option.some.inj h
            subst h
            exact W.iret hx hb hr (fun t ht hW => ⟨_, rfl, rfl, ht⟩) (fun q hq => by cases hq) dJ6_numberOfTrailingZeros_0f7a4_79
          · replace h := ite_f c64 h
            refine lv_iinc (v := (31 : Int32)) (lv' := [(1, .int (31 : Int32)), (0, .int z61)]) hx hb dJ6_numberOfTrailingZeros_0f7a4_67 hl (k := 1) rfl (by decide) (by decide) rfl (fun ls hl => ?_)
            refine lv_iload_n hx hb dJ6_numberOfTrailingZeros_0f7a4_70 rfl (lv_at hl 1 rfl) ?_
            refine lv_iconst (v := 2) hx hb dJ6_numberOfTrailingZeros_0f7a4_71 (by decide) ?_
            refine lv_iushr (v := (z61.toUInt32 >>> ((2 : Int32).toUInt32 &&& Int32.toUInt32 31)).toInt32) hx hb dJ6_numberOfTrailingZeros_0f7a4_72 rfl ?_
            refine lv_topi (fun z73 ez73 => ?_)
            replace h := nm_n h ez73
            refine lv_istore_n (lv' := [(0, .int z73), (1, .int (31 : Int32))]) hx hb dJ6_numberOfTrailingZeros_0f7a4_73 rfl hl (by decide) rfl (fun ls hl => ?_)
            refine lv_iload_n hx hb dJ6_numberOfTrailingZeros_0f7a4_74 rfl (lv_at hl 1 rfl) ?_
            refine lv_iload_n hx hb dJ6_numberOfTrailingZeros_0f7a4_75 rfl (lv_at hl 0 rfl) ?_
            refine lv_iconst (v := 1) hx hb dJ6_numberOfTrailingZeros_0f7a4_76 (by decide) ?_
            refine lv_iushr (v := (z73.toUInt32 >>> ((1 : Int32).toUInt32 &&& Int32.toUInt32 31)).toInt32) hx hb dJ6_numberOfTrailingZeros_0f7a4_77 rfl ?_
            refine lv_iadd hx hb dJ6_numberOfTrailingZeros_0f7a4_78 ?_
            replace h := Option.some.inj h
            subst h
            exact W.iret hx hb hr (fun t ht hW => ⟨_, rfl, rfl, ht⟩) (fun q hq => by cases hq) dJ6_numberOfTrailingZeros_0f7a4_79
  · replace h := ite_f c9 h
    refine lv_iload_n hx hb dJ6_numberOfTrailingZeros_0f7a4_12 rfl (lv_at hl 0 rfl) ?_
    refine lv_bipush (v := 32) hx hb dJ6_numberOfTrailingZeros_0f7a4_13 (by decide) ?_
    refine lv_iand hx hb dJ6_numberOfTrailingZeros_0f7a4_15 ?_
    replace h := Option.some.inj h
    subst h
    exact W.iret hx hb hr (fun t ht hW => ⟨_, rfl, rfl, ht⟩) (fun q hq => by cases hq) dJ6_numberOfTrailingZeros_0f7a4_16
theorem pd_X7_unit : yX7_unit.cls ≠ "java/lang/invoke/MethodHandle" ∧ yX7_unit.cls ≠ "java/lang/invoke/VarHandle" ∧ (parseMethodDescriptor yX7_unit.desc).map (fun d => d.parameters.length) = some 1 := by decide +kernel
def f_X7_unit (x0 : Int32) : Option (Int32) :=
  (if x0 = (0 : Int32) then (some (1 : Int32)) else (if x0 = (1 : Int32) then (some (6 : Int32)) else (if x0 = (2 : Int32) then (some (36 : Int32)) else (some (216 : Int32)))))
set_option maxHeartbeats 4000000 in
set_option maxRecDepth 100000 in
theorem c_X7_unit (l : Launch) (D : va_G) (g : Nat → ClassId)  (x0 : Int32) (r : Int32) (hf : f_X7_unit x0 = some r) : CR l yX7_unit wsX7_unit 0 0 D g [.int x0] [] (QRi r) := by
  refine Met.ofW (cc := cX7_unit) (maxL := 1) (ret := (some .int)) (by decide) rfl ?_
  intro p e s m args below meth c s₁ B hml hv
  obtain ⟨rfl, hP, hK⟩ := hv
  have hx := B.exec
  have hb := B.bytes
  have hr := B.returns
  have hts := atoms_spec (ws := wsX7_unit) B.pre
  have hown : s.vm.findClass RX7 = some m.cls := findClass_of_methodNamed B.named
  have hlocks := B.notSynchronized
  have hl := lv_entry ([.int x0]) (n := 1) (Nat.le_of_ble_eq_true rfl)
  rw [lg_entry_eq]
  generalize (lg_sl ([.int x0]) ++ List.replicate (1 - (lg_sl ([.int x0])).length) Slot.unset).toArray = ls at hl ⊢
  replace hl : lv_has ls 1 [(0, .int x0)] := hl
  have h := hf
  unfold f_X7_unit at h
  refine lv_iload_n hx hb dX7_unit_0 rfl (lv_at hl 0 rfl) ?_
  refine lv_if_ne (tgt := 8) hx hb dX7_unit_1 (by decide) (fun c1 => ?_) (fun c1 => ?_)
  · replace h := ite_f c1 h
    refine lv_iload_n hx hb dX7_unit_8 rfl (lv_at hl 0 rfl) ?_
    refine lv_iconst (v := 1) hx hb dX7_unit_9 (by decide) ?_
    refine lv_icmp_ne (tgt := 18) hx hb dX7_unit_10 (by decide) (fun c10 => ?_) (fun c10 => ?_)
    · replace h := ite_f c10 h
      refine lv_iload_n hx hb dX7_unit_18 rfl (lv_at hl 0 rfl) ?_
      refine lv_iconst (v := 2) hx hb dX7_unit_19 (by decide) ?_
      refine lv_icmp_ne (tgt := 28) hx hb dX7_unit_20 (by decide) (fun c20 => ?_) (fun c20 => ?_)
      · replace h := ite_f c20 h
        refine lv_sipush (v := 216) hx hb dX7_unit_28 (by decide) ?_
        replace h := Option.some.inj h
        subst h
        exact W.iret hx hb hr (fun t ht hW => ⟨_, rfl, rfl, ht⟩) (fun q hq => by cases hq) dX7_unit_31
      · replace h := ite_t c20 h
        refine lv_bipush (v := 36) hx hb dX7_unit_23 (by decide) ?_
        refine lv_goto (tgt := 31) hx hb dX7_unit_25 (by decide) ?_
        replace h := Option.some.inj h
        subst h
        exact W.iret hx hb hr (fun t ht hW => ⟨_, rfl, rfl, ht⟩) (fun q hq => by cases hq) dX7_unit_31
    · replace h := ite_t c10 h
      refine lv_bipush (v := 6) hx hb dX7_unit_13 (by decide) ?_
      refine lv_goto (tgt := 31) hx hb dX7_unit_15 (by decide) ?_
      replace h := Option.some.inj h
      subst h
      exact W.iret hx hb hr (fun t ht hW => ⟨_, rfl, rfl, ht⟩) (fun q hq => by cases hq) dX7_unit_31
  · replace h := ite_t c1 h
    refine lv_iconst (v := 1) hx hb dX7_unit_4 (by decide) ?_
    refine lv_goto (tgt := 31) hx hb dX7_unit_5 (by decide) ?_
    replace h := Option.some.inj h
    subst h
    exact W.iret hx hb hr (fun t ht hW => ⟨_, rfl, rfl, ht⟩) (fun q hq => by cases hq) dX7_unit_31
theorem pd_X7_digit : yX7_digit.cls ≠ "java/lang/invoke/MethodHandle" ∧ yX7_digit.cls ≠ "java/lang/invoke/VarHandle" ∧ (parseMethodDescriptor yX7_digit.desc).map (fun d => d.parameters.length) = some 2 := by decide +kernel
def f_X7_digit (x0 : Int32) (x1 : Int32) : Option (Int32) :=
  (Option.bind (f_X7_unit x1) fun z2 => (nz z2 (nz (6 : Int32) (some ((x0 / z2) - (x0 / z2) / (6 : Int32) * (6 : Int32))))))
set_option maxHeartbeats 4000000 in
set_option maxRecDepth 100000 in
theorem c_X7_digit (l : Launch) (D : va_G) (g : Nat → ClassId)  (x0 : Int32) (x1 : Int32) (r : Int32) (hf : f_X7_digit x0 x1 = some r) : CR l yX7_digit wsX7_digit 1 20 D g [.int x0, .int x1] [] (QRi r) := by
  refine Met.ofW (cc := cX7_digit) (maxL := 2) (ret := (some .int)) (by decide) rfl ?_
  intro p e s m args below meth c s₁ B hml hv
  obtain ⟨rfl, hP, hK⟩ := hv
  have hx := B.exec
  have hb := B.bytes
  have hr := B.returns
  have hts := atoms_spec (ws := wsX7_digit) B.pre
  have hown : s.vm.findClass RX7 = some m.cls := findClass_of_methodNamed B.named
  have hlocks := B.notSynchronized
  have hl := lv_entry ([.int x0, .int x1]) (n := 2) (Nat.le_of_ble_eq_true rfl)
  rw [lg_entry_eq]
  generalize (lg_sl ([.int x0, .int x1]) ++ List.replicate (2 - (lg_sl ([.int x0, .int x1])).length) Slot.unset).toArray = ls at hl ⊢
  replace hl : lv_has ls 2 [(0, .int x0), (1, .int x1)] := hl
  have h := hf
  unfold f_X7_digit at h
  refine lv_iload_n hx hb dX7_digit_0 rfl (lv_at hl 0 rfl) ?_
  refine lv_iload_n hx hb dX7_digit_1 rfl (lv_at hl 1 rfl) ?_
  obtain ⟨z2, e_2, h⟩ := bd_s h
  refine cr_i (va_runS (As := [.int x1]) (rest := [.int x0]) ⟨hx, hb, hml, hown, hts⟩ (c_X7_unit l D g x1 z2 e_2) (va_cwS 1 hts gX7_digit_X7_unit rfl rfl rfl pd_X7_unit ⟨Nat.le_of_ble_eq_true rfl, Nat.le_of_ble_eq_true rfl⟩) (pr_s hK hP) rfl rfl hl.1 rfl (lv_room (Nat.le_of_ble_eq_true rfl)) dX7_digit_2 ⟨Nat.zero_le _, Nat.zero_le _⟩) ?_
  refine lv_idiv hx hb dX7_digit_5 (nz_in h) ?_
  replace h := nz_k h
  refine lv_bipush (v := 6) hx hb dX7_digit_6 (by decide) ?_
  refine lv_irem hx hb dX7_digit_8 (nz_in h) ?_
  replace h := nz_k h
  replace h := Option.some.inj h
  subst h
  exact W.iret hx hb hr (fun t ht hW => ⟨_, rfl, rfl, ht⟩) (fun q hq => by cases hq) dX7_digit_9
theorem pd_X7_isSlot : yX7_isSlot.cls ≠ "java/lang/invoke/MethodHandle" ∧ yX7_isSlot.cls ≠ "java/lang/invoke/VarHandle" ∧ (parseMethodDescriptor yX7_isSlot.desc).map (fun d => d.parameters.length) = some 1 := by decide +kernel
def f_X7_isSlot (x0 : Int32) : Option (Bool) :=
  (Option.bind (f_X7_isIn x0 (0 : Int32) (3 : Int32)) fun z3 => (some z3))
set_option maxHeartbeats 4000000 in
set_option maxRecDepth 100000 in
theorem c_X7_isSlot (l : Launch) (D : va_G) (g : Nat → ClassId)  (x0 : Int32) (r : Bool) (hf : f_X7_isSlot x0 = some r) : CR l yX7_isSlot wsX7_isSlot 1 22 D g [.int x0] [] (QRi (bI r)) := by
  refine Met.ofW (cc := cX7_isSlot) (maxL := 1) (ret := (some .boolean)) (by decide) rfl ?_
  intro p e s m args below meth c s₁ B hml hv
  obtain ⟨rfl, hP, hK⟩ := hv
  have hx := B.exec
  have hb := B.bytes
  have hr := B.returns
  have hts := atoms_spec (ws := wsX7_isSlot) B.pre
  have hown : s.vm.findClass RX7 = some m.cls := findClass_of_methodNamed B.named
  have hlocks := B.notSynchronized
  have hl := lv_entry ([.int x0]) (n := 1) (Nat.le_of_ble_eq_true rfl)
  rw [lg_entry_eq]
  generalize (lg_sl ([.int x0]) ++ List.replicate (1 - (lg_sl ([.int x0])).length) Slot.unset).toArray = ls at hl ⊢
  replace hl : lv_has ls 1 [(0, .int x0)] := hl
  have h := hf
  unfold f_X7_isSlot at h
  refine lv_iload_n hx hb dX7_isSlot_0 rfl (lv_at hl 0 rfl) ?_
  refine lv_iconst (v := 0) hx hb dX7_isSlot_1 (by decide) ?_
  refine lv_iconst (v := 3) hx hb dX7_isSlot_2 (by decide) ?_
  obtain ⟨z3, e_3, h⟩ := bd_s h
  refine cr_i (va_runS (As := [.int x0, .int (0 : Int32), .int (3 : Int32)]) (rest := []) ⟨hx, hb, hml, hown, hts⟩ (c_X7_isIn l D g x0 (0 : Int32) (3 : Int32) z3 e_3) (va_cwS 3 hts gX7_isSlot_X7_isIn rfl rfl rfl pd_X7_isIn ⟨Nat.le_of_ble_eq_true rfl, Nat.le_of_ble_eq_true rfl⟩) (pr_s hK hP) rfl rfl hl.1 rfl (lv_room (Nat.le_of_ble_eq_true rfl)) dX7_isSlot_3 ⟨Nat.zero_le _, Nat.zero_le _⟩) ?_
  replace h := Option.some.inj h
  subst h
  exact W.zret hx hb hr (bI_n _) (fun t ht hW => ⟨_, rfl, rfl, ht⟩) (fun q hq => by cases hq) dX7_isSlot_6
theorem pd_X7_narrowed : yX7_narrowed.cls ≠ "java/lang/invoke/MethodHandle" ∧ yX7_narrowed.cls ≠ "java/lang/invoke/VarHandle" ∧ (parseMethodDescriptor yX7_narrowed.desc).map (fun d => d.parameters.length) = some 2 := by decide +kernel
def f_X7_narrowed (x0 : Int32) (x1 : Int64) : Option (Int64) :=
  (if x0 = (0 : Int32) then (if (lg_cmp x1 (0 : Int64)) = (0 : Int32) then (some (0 : Int64)) else (some (1 : Int64))) else (if x0 = (1 : Int32) then (some (((x1.toInt32).toInt8.toInt32).toInt64)) else (if x0 = (2 : Int32) then (some ((x1.toInt32).toInt64)) else (some x1))))
set_option maxHeartbeats 4000000 in
set_option maxRecDepth 100000 in
theorem c_X7_narrowed (l : Launch) (D : va_G) (g : Nat → ClassId)  (x0 : Int32) (x1 : Int64) (r : Int64) (hf : f_X7_narrowed x0 x1 = some r) : CR l yX7_narrowed wsX7_narrowed 0 0 D g [.int x0, .long x1] [] (QRl r) := by
  refine Met.ofW (cc := cX7_narrowed) (maxL := 3) (ret := (some .long)) (by decide) rfl ?_
  intro p e s m args below meth c s₁ B hml hv
  obtain ⟨rfl, hP, hK⟩ := hv
  have hx := B.exec
  have hb := B.bytes
  have hr := B.returns
  have hts := atoms_spec (ws := wsX7_narrowed) B.pre
  have hown : s.vm.findClass RX7 = some m.cls := findClass_of_methodNamed B.named
  have hlocks := B.notSynchronized
  have hl := lv_entry ([.int x0, .long x1]) (n := 3) (Nat.le_of_ble_eq_true rfl)
  rw [lg_entry_eq]
  generalize (lg_sl ([.int x0, .long x1]) ++ List.replicate (3 - (lg_sl ([.int x0, .long x1])).length) Slot.unset).toArray = ls at hl ⊢
  replace hl : lv_has ls 3 [(0, .int x0), (1, .long x1)] := hl
  have h := hf
  unfold f_X7_narrowed at h
  refine lv_iload_n hx hb dX7_narrowed_0 rfl (lv_at hl 0 rfl) ?_
  refine lv_if_ne (tgt := 18) hx hb dX7_narrowed_1 (by decide) (fun c1 => ?_) (fun c1 => ?_)
  · replace h := ite_f c1 h
    refine lv_iload_n hx hb dX7_narrowed_18 rfl (lv_at hl 0 rfl) ?_
    refine lv_iconst (v := 1) hx hb dX7_narrowed_19 (by decide) ?_
    refine lv_icmp_ne (tgt := 30) hx hb dX7_narrowed_20 (by decide) (fun c20 => ?_) (fun c20 => ?_)
    · replace h := ite_f c20 h
      refine lv_iload_n hx hb dX7_narrowed_30 rfl (lv_at hl 0 rfl) ?_
      refine lv_iconst (v := 2) hx hb dX7_narrowed_31 (by decide) ?_
      refine lv_icmp_ne (tgt := 41) hx hb dX7_narrowed_32 (by decide) (fun c32 => ?_) (fun c32 => ?_)
      · replace h := ite_f c32 h
        refine lv_lload_n hx hb dX7_narrowed_41 rfl (lv_at hl 1 rfl) ?_
        replace h := Option.some.inj h
        subst h
        exact W.lret hx hb hr (fun t ht hW => ⟨_, rfl, rfl, ht⟩) (fun q hq => by cases hq) dX7_narrowed_42
      · replace h := ite_t c32 h
        refine lv_lload_n hx hb dX7_narrowed_35 rfl (lv_at hl 1 rfl) ?_
        refine lv_l2i (v := x1.toInt32) hx hb dX7_narrowed_36 rfl ?_
        refine lv_i2l (v := (x1.toInt32).toInt64) hx hb dX7_narrowed_37 rfl ?_
        refine lv_goto (tgt := 42) hx hb dX7_narrowed_38 (by decide) ?_
        replace h := Option.some.inj h
        subst h
        exact W.lret hx hb hr (fun t ht hW => ⟨_, rfl, rfl, ht⟩) (fun q hq => by cases hq) dX7_narrowed_42
    · replace h := ite_t c20 h
      refine lv_lload_n hx hb dX7_narrowed_23 rfl (lv_at hl 1 rfl) ?_
      refine lv_l2i (v := x1.toInt32) hx hb dX7_narrowed_24 rfl ?_
      refine lv_i2b (v := (x1.toInt32).toInt8.toInt32) hx hb dX7_narrowed_25 rfl ?_
      refine lv_i2l (v := ((x1.toInt32).toInt8.toInt32).toInt64) hx hb dX7_narrowed_26 rfl ?_
      refine lv_goto (tgt := 42) hx hb dX7_narrowed_27 (by decide) ?_
      replace h := Option.some.inj h
      subst h
      exact W.lret hx hb hr (fun t ht hW => ⟨_, rfl, rfl, ht⟩) (fun q hq => by cases hq) dX7_narrowed_42
  · replace h := ite_t c1 h
    refine lv_lload_n hx hb dX7_narrowed_4 rfl (lv_at hl 1 rfl) ?_
    refine lv_lconst (v := 0) hx hb dX7_narrowed_5 (by decide) ?_
    refine W.lcmp hx hb dX7_narrowed_6 ?_
    refine lv_if_eq (tgt := 14) hx hb dX7_narrowed_7 (by decide) (fun c7 => ?_) (fun c7 => ?_)
    · replace h := ite_t c7 h
      refine lv_lconst (v := 0) hx hb dX7_narrowed_14 (by decide) ?_
      refine lv_goto (tgt := 42) hx hb dX7_narrowed_15 (by decide) ?_
      replace h := Option.some.inj h
      subst h
      exact W.lret hx hb hr (fun t ht hW => ⟨_, rfl, rfl, ht⟩) (fun q hq => by cases hq) dX7_narrowed_42
    · replace h := ite_f c7 h
      refine lv_lconst (v := 1) hx hb dX7_narrowed_10 (by decide) ?_
      refine lv_goto (tgt := 42) hx hb dX7_narrowed_11 (by decide) ?_
      replace h := Option.some.inj h
      subst h
      exact W.lret hx hb hr (fun t ht hW => ⟨_, rfl, rfl, ht⟩) (fun q hq => by cases hq) dX7_narrowed_42
