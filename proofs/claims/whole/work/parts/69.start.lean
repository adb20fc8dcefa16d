def T0 : Tb := rT 2 (zz 2 2 0 0)
theorem Z0 : ZOk 2 (zz 2 2 0 0) := by
  refine ⟨⟨by decide, by decide⟩, fun c hc => ?_, fun c hc => ?_⟩
  · have : c = 0 ∨ c = 1 := by omega
    rcases this with rfl | rfl <;> decide
  · have h1 : ¬ c = 0 := by omega
    have h2 : ¬ c = 1 := by omega
    show (if c = 0 then 2 else if c = 1 then 2 else if c = 2 then 0 else if c = 3 then 0 else 0) = 0
    rw [if_neg h1, if_neg h2]
    split
    · rfl
    · split <;> rfl
theorem M0 : MT T0 ((2)) 0 ((-1)) (upd (upd (upd (upd (fun _ => 0) (0 : Int32).toNatClampNeg (2)) (1 : Int32).toNatClampNeg (2)) (2 : Int32).toNatClampNeg (0)) (3 : Int32).toNatClampNeg (0)) (upd (upd (upd (upd (upd (upd (upd (upd (upd (upd (upd (upd (upd (upd (upd (upd (upd (upd (upd (upd (fun _ => 0) (0 : Int32).toNatClampNeg (1)) (1 : Int32).toNatClampNeg (1)) (2 : Int32).toNatClampNeg (1)) (3 : Int32).toNatClampNeg (1)) (4 : Int32).toNatClampNeg (1)) (5 : Int32).toNatClampNeg (1)) (6 : Int32).toNatClampNeg (1)) (7 : Int32).toNatClampNeg (1)) (8 : Int32).toNatClampNeg (1)) (9 : Int32).toNatClampNeg (1)) (10 : Int32).toNatClampNeg (1)) (11 : Int32).toNatClampNeg (1)) (12 : Int32).toNatClampNeg (1)) (13 : Int32).toNatClampNeg (1)) (14 : Int32).toNatClampNeg (1)) (15 : Int32).toNatClampNeg (1)) (16 : Int32).toNatClampNeg (1)) (17 : Int32).toNatClampNeg (1)) (18 : Int32).toNatClampNeg (1)) (19 : Int32).toNatClampNeg (1)) (upd (upd (upd (upd (fun _ => 0) (0 : Int32).toNatClampNeg (1)) (1 : Int32).toNatClampNeg (1)) (2 : Int32).toNatClampNeg (1)) (3 : Int32).toNatClampNeg (1)) (fun _ => 0) (fun _ => 0) := by
  refine ⟨rfl, rfl, rfl, ?_, ?_, ?_, fun i hi => absurd (show i < 0 * 4 from hi) (by omega), fun r hr => absurd hr (Nat.not_lt_zero r)⟩
  · exact (show ∀ c, c < 4 → (upd (upd (upd (upd (fun _ => 0) (0 : Int32).toNatClampNeg (2)) (1 : Int32).toNatClampNeg (2)) (2 : Int32).toNatClampNeg (0)) (3 : Int32).toNatClampNeg (0)) c = nI (zz 2 2 0 0 c) from by decide +kernel)
  · exact (show ∀ c, c < 20 → (upd (upd (upd (upd (upd (upd (upd (upd (upd (upd (upd (upd (upd (upd (upd (upd (upd (upd (upd (upd (fun _ => 0) (0 : Int32).toNatClampNeg (1)) (1 : Int32).toNatClampNeg (1)) (2 : Int32).toNatClampNeg (1)) (3 : Int32).toNatClampNeg (1)) (4 : Int32).toNatClampNeg (1)) (5 : Int32).toNatClampNeg (1)) (6 : Int32).toNatClampNeg (1)) (7 : Int32).toNatClampNeg (1)) (8 : Int32).toNatClampNeg (1)) (9 : Int32).toNatClampNeg (1)) (10 : Int32).toNatClampNeg (1)) (11 : Int32).toNatClampNeg (1)) (12 : Int32).toNatClampNeg (1)) (13 : Int32).toNatClampNeg (1)) (14 : Int32).toNatClampNeg (1)) (15 : Int32).toNatClampNeg (1)) (16 : Int32).toNatClampNeg (1)) (17 : Int32).toNatClampNeg (1)) (18 : Int32).toNatClampNeg (1)) (19 : Int32).toNatClampNeg (1)) c = nI 1 from by decide +kernel)
  · exact (show ∀ c, c < 4 → (upd (upd (upd (upd (fun _ => 0) (0 : Int32).toNatClampNeg (1)) (1 : Int32).toNatClampNeg (1)) (2 : Int32).toNatClampNeg (1)) (3 : Int32).toNatClampNeg (1)) c = nI 1 from by decide +kernel)
theorem S0 : SL (fun _ => false) (fun _ => 0) (fun _ => 0) (fun _ _ => 0) (upd (upd (upd (upd (fun _ => 0) (0 : Int32).toNatClampNeg (-1)) (1 : Int32).toNatClampNeg (-1)) (2 : Int32).toNatClampNeg (-1)) (3 : Int32).toNatClampNeg (-1)) (fun _ => 0) (fun _ => 0) := fun j hj => ⟨fun w => absurd (show false = true from w) (by decide), fun _ => (show ∀ c, c < 4 → (upd (upd (upd (upd (fun _ => 0) (0 : Int32).toNatClampNeg (-1)) (1 : Int32).toNatClampNeg (-1)) (2 : Int32).toNatClampNeg (-1)) (3 : Int32).toNatClampNeg (-1)) c = -1 from by decide +kernel) j hj⟩
theorem k_int {s : State} {args : Array Value} (h : (Cond.arrayClass .int).before args s = true) : ∃ cA, ArrOfT s cA .int ∧ va_RA s cA .int := by
  obtain ⟨c, k, comp, h1, h2, h3⟩ := Cond.arrayClass_spec h
  exact ⟨c, fun n z => ⟨(fun k h => by cases h), k, h2, comp, h3⟩, h1⟩
theorem k_long {s : State} {args : Array Value} (h : (Cond.arrayClass .long).before args s = true) : ∃ cA, ArrOfT s cA .long ∧ va_RA s cA .long := by
  obtain ⟨c, k, comp, h1, h2, h3⟩ := Cond.arrayClass_spec h
  exact ⟨c, fun n z => ⟨(fun k h => by cases h), k, h2, comp, h3⟩, h1⟩
theorem k_byte {s : State} {args : Array Value} (h : (Cond.arrayClass .byte).before args s = true) : ∃ cA, ArrOfT s cA .byte ∧ va_RA s cA .byte := by
  obtain ⟨c, k, comp, h1, h2, h3⟩ := Cond.arrayClass_spec h
  exact ⟨c, fun n z => ⟨(fun k h => by cases h), k, h2, comp, h3⟩, h1⟩
theorem k_over {s : State} {args : Array Value} (h : (Cond.arrayOver (.object "DecisionTableCompiler$Slot")).before args s = true) : ∃ cA, ArrOfT s cA (.object "DecisionTableCompiler$Slot") ∧ va_RA s cA (.object "DecisionTableCompiler$Slot") := by
  obtain ⟨comp, c, k, h1, _, h2, h3, h4⟩ := Cond.arrayOver_spec h
  exact ⟨c, fun n z => ⟨(fun k h => by cases h), k, h2, comp, h3⟩, k, comp, h2, h3, h1, h4⟩
theorem KI_start {s : State} {args : Array Value} (hts : ∀ w ∈ lw_tbl, w.before args s = true) : ∃ (D : va_G) (g : Nat → ClassId), KI D g s := by
  obtain ⟨c0, i0, k0⟩ := u_known (C := RX0) (T := TX0) (N := 2) (n := 2) hts i_wsX00 (hts _ iw_X0)
  obtain ⟨c1, i1, k1⟩ := u_known (C := RX1) (T := TX1) (N := 5) (n := 5) hts i_wsX10 (hts _ iw_X1)
  obtain ⟨c2, i2, k2⟩ := u_known (C := RX2) (T := TX2) (N := 4) (n := 4) hts i_wsX20 (hts _ iw_X2)
  obtain ⟨c3, i3, k3⟩ := u_known (C := RX3) (T := TX3) (N := 4) (n := 4) hts i_wsX30 (hts _ iw_X3)
  obtain ⟨c4, i4, k4⟩ := u_known (C := RX4) (T := TX4) (N := 11) (n := 11) hts i_wsX40 (hts _ iw_X4)
  obtain ⟨c5, i5, k5⟩ := u_known (C := RX5) (T := TX5) (N := 11) (n := 11) hts i_wsX50 (hts _ iw_X5)
  obtain ⟨c6, i6, k6⟩ := u_known (C := RX6) (T := TX6) (N := 9) (n := 9) hts i_wsX60 (hts _ iw_X6)
  obtain ⟨c7, i7, k7⟩ := u_known (C := RX7) (T := TX7) (N := 37) (n := 37) hts i_wsX70 (hts _ iw_X7)
  obtain ⟨g0, a0, b0⟩ := k_int (hts _ iw_int)
  obtain ⟨g1, a1, b1⟩ := k_long (hts _ iw_long)
  obtain ⟨g2, a2, b2⟩ := k_byte (hts _ iw_byte)
  obtain ⟨g3, a3, b3⟩ := k_over (hts _ iw_over)
  refine ⟨(fun k => match k with | 0 => c0 | 1 => c1 | 2 => c2 | 3 => c3 | 4 => c4 | 5 => c5 | 6 => c6 | _ => c7, fun k => match k with | 0 => i0 | 1 => i1 | 2 => i2 | 3 => i3 | 4 => i4 | 5 => i5 | 6 => i6 | _ => i7), (fun k => match k with | 0 => g0 | 1 => g1 | 2 => g2 | _ => g3), ⟨⟨⟨?_, ?_⟩, ?_⟩, ?_⟩⟩
  · intro k q hq
    match k, hq with
    | 0, hq => cases hq; exact k0
    | 1, hq => cases hq; exact k1
    | 2, hq => cases hq; exact k2
    | 3, hq => cases hq; exact k3
    | 4, hq => cases hq; exact k4
    | 5, hq => cases hq; exact k5
    | 6, hq => cases hq; exact k6
    | 7, hq => cases hq; exact k7
    | k + 8, hq => simp [vwCl] at hq
  · intro k q hq
    match k, hq with
    | 0, hq => cases hq; exact ⟨a0, b0⟩
    | 1, hq => cases hq; exact ⟨a1, b1⟩
    | 2, hq => cases hq; exact ⟨a2, b2⟩
    | 3, hq => cases hq; exact ⟨a3, b3⟩
    | k + 4, hq => simp [tyL] at hq
  · exact ⟨va_Nw.of rfl (hts _ iw_RX1_72), va_Nw.of rfl (hts _ iw_RX1_76), va_Nw.of rfl (hts _ iw_RX4_62), va_Nw.of rfl (hts _ iw_RX4_66)⟩
  · exact ⟨va_AO.of (hts _ iw_over), va_Nw.of rfl (hts _ iw_RX6_11), va_Nw.of rfl (hts _ iw_RX6_23), va_Nw.of rfl (hts _ iw_RX6_30), va_Nw.of rfl (hts _ iw_RX6_37), va_Nw.of rfl (hts _ iw_RX6_44), va_Nw.of rfl (hts _ iw_RX6_55)⟩
set_option maxHeartbeats 4000000 in
set_option maxRecDepth 100000 in
theorem whole_start {p : Program} {e : Env} {s : State} {m : MethodId} {below : List Frame} {meth : Method} {c : Code} (l : Launch) (hflags : l.flags = flags0) {b L : Nat} {xs : Nat → Int32} (hL : L ≤ 3072) (C0 : lw_At p s m meth c b L xs) : W p l e room_1 s m #[Value.ref b] below meth c s.heap [] 0 0 (lw_Z below #[Value.ref b] s) (entryFrame m ([Value.ref b] : List Value).toArray 4) := by
  obtain ⟨hx, hb, hr, hml, hown0, hts0, hX, hbl, hlocks, hgv⟩ := id C0
  have hown : s.vm.findClass RL = some m.cls := hown0
  have hts : ∀ w ∈ wsL_law, w.before #[Value.ref b] s = true := fun w h => hts0 w (wsL_law_in w h)
  obtain ⟨D, g, hK⟩ := KI_start hts0
  obtain ⟨tst, hf, hX0⟩ := x_clear (x1 := 2) (x2 := 2) (x3 := 0) (x4 := 0) Z0 rfl rfl rfl rfl 0 0 0 0 (fun _ => 0) (fun _ => 0) (fun _ => 0) (fun _ => 0) (fun _ => 0) (fun _ => 0) (fun _ => 0)
  have hA : ∀ q : Nat, s.heap.size ≤ q → (fun q : Nat => s.heap.size ≤ q) q := fun _ h => h
  have hS : va_S (fun q : Nat => s.heap.size ≤ q) s.heap s.heap [] := va_S.rf
  have hl := lv_entry ([.ref b]) (n := 4) (Nat.le_of_ble_eq_true rfl)
  rw [lg_entry_eq]
  generalize (lg_sl ([.ref b]) ++ List.replicate (4 - (lg_sl ([.ref b])).length) Slot.unset).toArray = ls at hl ⊢
  replace hl : lv_has ls 4 [(0, .ref b)] := hl
  refine va_new (ci := 6) (fs := [.null, .null, .null, .null, .null, .null, .null, .int 0, .int 0]) (C := RX6) (T := TX6) (N := 9) hx hb hts0 i_wsX60 tyX6 tyX6_ok hown (hts (.classLink RL 7 RX6) (List.mem_of_getElem? (i := 0) rfl)) (hts0 _ iw_X6) (hts (.initialized RX6) (List.mem_of_getElem? (i := 2) rfl)) hK.1.1 (P_nil (D := D) (cl := vwCl) (H := s.heap)) (D_nil (A := fun q : Nat => s.heap.size ≤ q)) hS hA rfl dfX6 (Nat.le_of_ble_eq_true rfl) (Nat.le_of_ble_eq_true rfl) dL_law_0 (fun q0 H hP hD hS => ?_)
  refine lv_dup hx hb dL_law_3 rfl ?_
  have hT := (TW.of hP hD).swap
  refine tw_n (va_runI (As := []) (rest := [.ref q0]) ⟨hx, hb, hml, hown, hts⟩ (c_X6_init l H.size D g q0 _ _ _ _ _ _ _ _ _ hf) (cwI 0 hts gL_law_X6_init rfl rfl rfl (hts (.initialized RX6) (List.mem_of_getElem? (i := 2) rfl)) (hts (.methodLink RL 9 yX6_init) (List.mem_of_getElem? (i := 7) rfl)) (hts (.instanceMethod yX6_init) (List.mem_of_getElem? (i := 8) rfl)) rfl pd_X6_init ⟨Nat.le_of_ble_eq_true rfl, Nat.le_of_ble_eq_true rfl⟩) (pw_k hK hT.1 hT.2.2.1) rfl rfl hl.1 rfl (lv_room (Nat.le_of_ble_eq_true rfl)) dL_law_4 ⟨Nat.le_of_ble_eq_true rfl, Nat.le_of_ble_eq_true rfl⟩) hT hS hA (fun u H locs hu hT1 hS1 => ?_)
  clear hT hP hD hS
  obtain ⟨aX, aT, aV, aI, aR, aP, aE, aS0, aS1, aS2, aS3⟩ := u
  replace hu : aX 0 = q0 := hu
  subst hu
  refine W.widen (k := 43) (n := 11116) (Nat.le_of_ble_eq_true rfl) (Nat.le_of_ble_eq_true rfl) ?_
  have hP : va_P D vwCl (W6 g aX aT aV aI aR aP aE aS0 aS1 aS2 aS3 false false (nI 2) (nI (pr (zz 2 2 0 0) 0 2)) 0 (-1) (sz4 (fun _ => 0) 2 2 0 0) tst (fil 4 1 (fun _ => 0)) (fil 20 1 (fun _ => 0)) (fun _ => 0) (fun _ => 0) (fil 20 0 (fun _ => 0)) (nI 2) (nI (pr (zz 2 2 0 0) 0 2)) 0 (-1) (sz4 (fun _ => 0) 2 2 0 0) tst (fil 4 1 (fun _ => 0)) (fil 20 1 (fun _ => 0)) (fun _ => 0) (fun _ => 0) (fil 20 0 (fun _ => 0)) (0) (fun _ => 0) 0 (fun _ => 0) 0 0 0 (fun _ => 0) (fun _ => 0) (fun _ => 0) (fun _ => 0) 0 0 0 0 (fun _ => 0) (fun _ => 0) (fun _ => 0) (fun _ => 0) (fun _ => 0) (fun _ => 0) (fun _ => 0) false 0 0 (fun _ => 0) false 0 0 (fun _ => 0) false 0 0 (fun _ => 0) false 0 0 (fun _ => 0)) H := hT1.1
  have hD : va_D (fun q : Nat => s.heap.size ≤ q) (W6 g aX aT aV aI aR aP aE aS0 aS1 aS2 aS3 false false (nI 2) (nI (pr (zz 2 2 0 0) 0 2)) 0 (-1) (sz4 (fun _ => 0) 2 2 0 0) tst (fil 4 1 (fun _ => 0)) (fil 20 1 (fun _ => 0)) (fun _ => 0) (fun _ => 0) (fil 20 0 (fun _ => 0)) (nI 2) (nI (pr (zz 2 2 0 0) 0 2)) 0 (-1) (sz4 (fun _ => 0) 2 2 0 0) tst (fil 4 1 (fun _ => 0)) (fil 20 1 (fun _ => 0)) (fun _ => 0) (fun _ => 0) (fil 20 0 (fun _ => 0)) (0) (fun _ => 0) 0 (fun _ => 0) 0 0 0 (fun _ => 0) (fun _ => 0) (fun _ => 0) (fun _ => 0) 0 0 0 0 (fun _ => 0) (fun _ => 0) (fun _ => 0) (fun _ => 0) (fun _ => 0) (fun _ => 0) (fun _ => 0) false 0 0 (fun _ => 0) false 0 0 (fun _ => 0) false 0 0 (fun _ => 0) false 0 0 (fun _ => 0)) := hT1.2.2.1
  clear hT1
  refine lv_astore_n (lv' := [(1, .ref (aX 0)), (0, .ref b)]) hx hb dL_law_7 rfl hl (by decide) rfl (fun ls hl => ?_)
  refine va_new (ci := 7) (fs := [.int 0, .null, .null, .null, .int 0, .null, .null, .int 0, .int 0, .null, .int 0, .null, .int 0, .null, .null, .null, .null, .int 0, .null, .null, .null, .null, .null, .long 0, .null, .null, .null, .null, .int 0, .int 0, .null, .null, .null, .int 0, .null, .null, .int 0]) (C := RX7) (T := TX7) (N := 37) hx hb hts0 i_wsX70 tyX7 tyX7_ok hown (hts (.classLink RL 10 RX7) (List.mem_of_getElem? (i := 3) rfl)) (hts0 _ iw_X7) (hts (.initialized RX7) (List.mem_of_getElem? (i := 5) rfl)) hK.1.1 hP hD hS1 hA rfl dfX7 (Nat.le_of_ble_eq_true rfl) (Nat.le_of_ble_eq_true rfl) dL_law_8 (fun q1 H hP hD hS => ?_)
  refine lv_dup hx hb dL_law_11 rfl ?_
  have hT := (TW.of hP hD).swap
  refine tw_n (va_runI (As := []) (rest := [.ref q1]) ⟨hx, hb, hml, hown, hts⟩ (c_X7_init l H.size D g q1) (cwI 0 hts gL_law_X7_init rfl rfl rfl (hts (.initialized RX7) (List.mem_of_getElem? (i := 5) rfl)) (hts (.methodLink RL 12 yX7_init) (List.mem_of_getElem? (i := 94) rfl)) (hts (.instanceMethod yX7_init) (List.mem_of_getElem? (i := 95) rfl)) rfl pd_X7_init ⟨Nat.le_of_ble_eq_true rfl, Nat.le_of_ble_eq_true rfl⟩) (pw_s hK.1 hT.1 hT.2.2.1) rfl rfl hl.1 rfl (lv_room (Nat.le_of_ble_eq_true rfl)) dL_law_12 ⟨Nat.le_of_ble_eq_true rfl, Nat.le_of_ble_eq_true rfl⟩) hT hS hA (fun aM H locs hu hT1 hS2 => ?_)
  clear hT hP hD hS
  replace hu : aM 0 = q1 := hu
  subst hu
  refine W.widen (k := 69) (n := 23970) (Nat.le_of_ble_eq_true rfl) (Nat.le_of_ble_eq_true rfl) ?_
  refine lv_astore_n (lv' := [(2, .ref (aM 0)), (1, .ref (aX 0)), (0, .ref b)]) hx hb dL_law_15 rfl hl (by decide) rfl (fun ls hl => ?_)
  refine lv_iconst (v := 0) hx hb dL_law_16 (by decide) ?_
  refine lv_istore_n (lv' := [(3, .int 0), (2, .ref (aM 0)), (1, .ref (aX 0)), (0, .ref b)]) hx hb dL_law_17 rfl hl (by decide) rfl (fun ls hl => ?_)
  have hC : LC p s m c b L xs D g := ⟨hx, hb, hml, hown, hts, hX, hbl, hK.1, hL⟩
  have hI : LI s D g aX aT aV aI aR aP aE aS0 aS1 aS2 aS3 aM T0 T0 0 (fun _ => 0) 0 false false (nI 2) (nI (pr (zz 2 2 0 0) 0 2)) 0 (-1) (sz4 (fun _ => 0) 2 2 0 0) tst (fil 4 1 (fun _ => 0)) (fil 20 1 (fun _ => 0)) (fun _ => 0) (fun _ => 0) (fil 20 0 (fun _ => 0)) (nI 2) (nI (pr (zz 2 2 0 0) 0 2)) 0 (-1) (sz4 (fun _ => 0) 2 2 0 0) tst (fil 4 1 (fun _ => 0)) (fil 20 1 (fun _ => 0)) (fun _ => 0) (fun _ => 0) (fil 20 0 (fun _ => 0)) (0) (fun _ => 0) 0 (fun _ => 0) 0 0 0 (fun _ => 0) (fun _ => 0) (fun _ => 0) (fun _ => 0) 0 0 0 0 (fun _ => 0) (fun _ => 0) (fun _ => 0) (fun _ => 0) (fun _ => 0) (fun _ => 0) (fun _ => 0) (fun _ => false) (fun _ => 0) (fun _ => 0) (fun _ _ => 0) ((2)) (upd (upd (upd (upd (fun _ => 0) (0 : Int32).toNatClampNeg (2)) (1 : Int32).toNatClampNeg (2)) (2 : Int32).toNatClampNeg (0)) (3 : Int32).toNatClampNeg (0)) (upd (upd (upd (upd (upd (upd (upd (upd (upd (upd (upd (upd (upd (upd (upd (upd (upd (upd (upd (upd (fun _ => 0) (0 : Int32).toNatClampNeg (1)) (1 : Int32).toNatClampNeg (1)) (2 : Int32).toNatClampNeg (1)) (3 : Int32).toNatClampNeg (1)) (4 : Int32).toNatClampNeg (1)) (5 : Int32).toNatClampNeg (1)) (6 : Int32).toNatClampNeg (1)) (7 : Int32).toNatClampNeg (1)) (8 : Int32).toNatClampNeg (1)) (9 : Int32).toNatClampNeg (1)) (10 : Int32).toNatClampNeg (1)) (11 : Int32).toNatClampNeg (1)) (12 : Int32).toNatClampNeg (1)) (13 : Int32).toNatClampNeg (1)) (14 : Int32).toNatClampNeg (1)) (15 : Int32).toNatClampNeg (1)) (16 : Int32).toNatClampNeg (1)) (17 : Int32).toNatClampNeg (1)) (18 : Int32).toNatClampNeg (1)) (19 : Int32).toNatClampNeg (1)) (upd (upd (upd (upd (fun _ => 0) (0 : Int32).toNatClampNeg (1)) (1 : Int32).toNatClampNeg (1)) (2 : Int32).toNatClampNeg (1)) (3 : Int32).toNatClampNeg (1)) (fun _ => 0) (fun _ => 0) ((-1)) (fun _ => 0) (fun _ => 0) (0) (fun _ => 0) (fun _ => 0) (fun _ => 0) (fun _ => 0) (0) (fun _ => 0) (fun _ => 0) (fun _ => 0) (fun _ => 0) (fun _ => 0) (0) (upd (upd (upd (upd (fun _ => 0) (0 : Int32).toNatClampNeg (-1)) (1 : Int32).toNatClampNeg (-1)) (2 : Int32).toNatClampNeg (-1)) (3 : Int32).toNatClampNeg (-1)) (fun _ => 0) (fun _ => 0) (fun _ => 0) (0) (fun _ => 0) (fun _ => 0) (fun _ => 0) (0) (fun _ => 0) (fun _ => 0) (0) H locs := ⟨⟨rT_ok Z0, hX0, M0⟩, (fun w => absurd w (by decide)), ⟨rfl, rfl, Nat.zero_le _, (fun i h => absurd h (Nat.not_lt_zero i)), (fun i h => absurd h (Nat.not_lt_zero i)), (fun i h => absurd h (Nat.not_lt_zero i))⟩, (fun w => absurd w (by decide)), ⟨rfl, Nat.zero_le _⟩, S0, hT1.swap, hS2⟩
  exact law_loop hC hr hlocks (L + 1) 0 T0 T0 0 (fun _ => 0) 0 false false (nI 2) (nI (pr (zz 2 2 0 0) 0 2)) 0 (-1) (sz4 (fun _ => 0) 2 2 0 0) tst (fil 4 1 (fun _ => 0)) (fil 20 1 (fun _ => 0)) (fun _ => 0) (fun _ => 0) (fil 20 0 (fun _ => 0)) (nI 2) (nI (pr (zz 2 2 0 0) 0 2)) 0 (-1) (sz4 (fun _ => 0) 2 2 0 0) tst (fil 4 1 (fun _ => 0)) (fil 20 1 (fun _ => 0)) (fun _ => 0) (fun _ => 0) (fil 20 0 (fun _ => 0)) (0) (fun _ => 0) 0 (fun _ => 0) 0 0 0 (fun _ => 0) (fun _ => 0) (fun _ => 0) (fun _ => 0) 0 0 0 0 (fun _ => 0) (fun _ => 0) (fun _ => 0) (fun _ => 0) (fun _ => 0) (fun _ => 0) (fun _ => 0) (fun _ => false) (fun _ => 0) (fun _ => 0) (fun _ _ => 0) ((2)) (upd (upd (upd (upd (fun _ => 0) (0 : Int32).toNatClampNeg (2)) (1 : Int32).toNatClampNeg (2)) (2 : Int32).toNatClampNeg (0)) (3 : Int32).toNatClampNeg (0)) (upd (upd (upd (upd (upd (upd (upd (upd (upd (upd (upd (upd (upd (upd (upd (upd (upd (upd (upd (upd (fun _ => 0) (0 : Int32).toNatClampNeg (1)) (1 : Int32).toNatClampNeg (1)) (2 : Int32).toNatClampNeg (1)) (3 : Int32).toNatClampNeg (1)) (4 : Int32).toNatClampNeg (1)) (5 : Int32).toNatClampNeg (1)) (6 : Int32).toNatClampNeg (1)) (7 : Int32).toNatClampNeg (1)) (8 : Int32).toNatClampNeg (1)) (9 : Int32).toNatClampNeg (1)) (10 : Int32).toNatClampNeg (1)) (11 : Int32).toNatClampNeg (1)) (12 : Int32).toNatClampNeg (1)) (13 : Int32).toNatClampNeg (1)) (14 : Int32).toNatClampNeg (1)) (15 : Int32).toNatClampNeg (1)) (16 : Int32).toNatClampNeg (1)) (17 : Int32).toNatClampNeg (1)) (18 : Int32).toNatClampNeg (1)) (19 : Int32).toNatClampNeg (1)) (upd (upd (upd (upd (fun _ => 0) (0 : Int32).toNatClampNeg (1)) (1 : Int32).toNatClampNeg (1)) (2 : Int32).toNatClampNeg (1)) (3 : Int32).toNatClampNeg (1)) (fun _ => 0) (fun _ => 0) ((-1)) (fun _ => 0) (fun _ => 0) (0) (fun _ => 0) (fun _ => 0) (fun _ => 0) (fun _ => 0) (0) (fun _ => 0) (fun _ => 0) (fun _ => 0) (fun _ => 0) (fun _ => 0) (0) (upd (upd (upd (upd (fun _ => 0) (0 : Int32).toNatClampNeg (-1)) (1 : Int32).toNatClampNeg (-1)) (2 : Int32).toNatClampNeg (-1)) (3 : Int32).toNatClampNeg (-1)) (fun _ => 0) (fun _ => 0) (fun _ => 0) (0) (fun _ => 0) (fun _ => 0) (fun _ => 0) (0) (fun _ => 0) (fun _ => 0) (0) H locs ls (Nat.zero_le _) (by omega) hI hl
