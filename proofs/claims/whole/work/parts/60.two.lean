/-! two worlds that are apart; a call on one of them leaves the other -/
def TW (D : va_G) (A : Nat → Prop) (w v : va_W) (H : Heap) : Prop := va_P D vwCl w H ∧ va_P D vwCl v H ∧ va_D A w ∧ va_D A v ∧ ∀ (i j : Nat) (p q : Nat × va_E), w[i]? = some p → v[j]? = some q → p.1 ≠ q.1
theorem TW.swap {D : va_G} {A : Nat → Prop} {w v : va_W} {H : Heap} (h : TW D A w v H) : TW D A v w H := ⟨h.2.1, h.1, h.2.2.2.1, h.2.2.1, fun i j p q hp hq e => h.2.2.2.2 j i q p hq hp e.symm⟩
theorem TW.app {D : va_G} {A : Nat → Prop} {w v : va_W} {H : Heap} (h : TW D A w v H) : va_P D vwCl (w ++ v) H ∧ va_D A (w ++ v) := ⟨h.1.app h.2.1, h.2.2.1.app h.2.2.2.1 h.2.2.2.2⟩
theorem TW.of {D : va_G} {A : Nat → Prop} {w v : va_W} {H : Heap} (hP : va_P D vwCl (w ++ v) H) (hD : va_D A (w ++ v)) : TW D A w v H := by
  have gl : ∀ (k : Nat) (q : Nat × va_E), w[k]? = some q → (w ++ v)[k]? = some q := fun k q h => by
    rw [List.getElem?_append_left (List.getElem?_eq_some_iff.mp h).1]
    exact h
  have gr : ∀ (k : Nat) (q : Nat × va_E), v[k]? = some q → (w ++ v)[w.length + k]? = some q := fun k q h => by
    rw [List.getElem?_append_right (Nat.le_add_right _ _), Nat.add_sub_cancel_left]
    exact h
  refine ⟨fun k q h => hP k q (gl k q h), fun k q h => hP _ q (gr k q h), ⟨fun i j p q hi hj e => hD.1 i j p q (gl i p hi) (gl j q hj) e, fun k q h => hD.2 k q (gl k q h)⟩, ⟨fun i j p q hi hj e => ?_, fun k q h => hD.2 _ q (gr k q h)⟩, fun i j p q hi hj e => ?_⟩
  · have := hD.1 _ _ p q (gr i p hi) (gr j q hj) e
    omega
  · have h1 := hD.1 _ _ p q (gl i p hi) (gr j q hj) e
    have h2 := (List.getElem?_eq_some_iff.mp hi).1
    omega
theorem TW.call {D : va_G} {A : Nat → Prop} {w v w1 : va_W} {H H1 : Heap} (h : TW D A w v H) (hk : ∀ q : Nat, q < H.size → ¬ va_A w H.size q → H1[q]? = H[q]?) (hF : ∀ q, va_A w H.size q → A q) (hP1 : va_P D vwCl w1 H1) (hD1 : va_D (va_A w H.size) w1) : TW D A w1 v H1 := by
  have ap : ∀ (k : Nat) (q : Nat × va_E), v[k]? = some q → q.1 < H.size ∧ ¬ va_A w H.size q.1 := fun k q hq => by
    have hl := (h.2.1 k q hq).lt
    refine ⟨hl, fun ha => ?_⟩
    rcases ha with ⟨k2, e, ha⟩ | ha
    · exact h.2.2.2.2 k2 k (q.1, e) q ha hq rfl
    · omega
  exact ⟨hP1, h.2.1.kept (fun k q hq => hk q.1 (ap k q hq).1 (ap k q hq).2), hD1.weaken (fun k q _ hh => hF q.1 hh), h.2.2.2.1, fun i j p q hp hq e => (ap j q hq).2 (by rw [← e]; exact hD1.2 i p hp)⟩
theorem TW.free {D : va_G} {A : Nat → Prop} {w v : va_W} {H0 H : Heap} {locs : List Loc} (h : TW D A w v H) (hS : va_S A H0 H locs) (hA : ∀ q, H0.size ≤ q → A q) : ∀ q, va_A w H.size q → A q := fun q hq => by
  rcases hq with ⟨k, e, hk⟩ | hq
  · exact h.2.2.1.2 k (q, e) hk
  · exact hA q (Nat.le_trans hS.1 hq)
/-- what the constructors of the system need besides -/
def KI (D : va_G) (g : Nat → ClassId) (U : State) : Prop := KK D g U ∧ va_AO "DecisionTableCompiler$Slot" U ∧ va_Nw (.methodLinkNest RX6 11 yX4_init "DecisionTableCompiler") U ∧ va_Nw (.methodLinkNest RX6 23 yX0_init "DecisionTableCompiler") U ∧ va_Nw (.methodLinkNest RX6 30 yX2_init "DecisionTableCompiler") U ∧ va_Nw (.methodLinkNest RX6 37 yX1_init "DecisionTableCompiler") U ∧ va_Nw (.methodLinkNest RX6 44 yX5_init "DecisionTableCompiler") U ∧ va_Nw (.methodLinkNest RX6 55 yX3_init "DecisionTableCompiler") U
theorem KI.warm {D : va_G} {g : Nat → ClassId} {s U : State} (h : KI D g s) (hW : s.WarmedH U.vm) : KI D g U := ⟨h.1.warm hW, va_AO.moved hW.alike h.2.1, va_Nw.warmM hW h.2.2.1, va_Nw.warmM hW h.2.2.2.1, va_Nw.warmM hW h.2.2.2.2.1, va_Nw.warmM hW h.2.2.2.2.2.1, va_Nw.warmM hW h.2.2.2.2.2.2.1, va_Nw.warmM hW h.2.2.2.2.2.2.2⟩
theorem KI.call {D : va_G} {g : Nat → ClassId} {U : State} {f : JFrame} {mk : MethodId} {a : Array Value} (h : KI D g U) : KI D g (U.calling f mk a) := ⟨h.1.call, va_AO.moved (u := U) (U := U.calling f mk a) (Vm.Alike.refl U.vm) h.2.1, va_Nw.same rfl rfl h.2.2.1, va_Nw.same rfl rfl h.2.2.2.1, va_Nw.same rfl rfl h.2.2.2.2.1, va_Nw.same rfl rfl h.2.2.2.2.2.1, va_Nw.same rfl rfl h.2.2.2.2.2.2.1, va_Nw.same rfl rfl h.2.2.2.2.2.2.2⟩
/-- a constructor: its object w becomes the world B u -/
abbrev QI {S : Type} (D : va_G) (w : va_W) (sz : Nat) (post : S → Prop) (B : S → va_W) : Array Value → State → Outcome → State → Prop := va_Qv post (fun u t => va_P D vwCl (B u) t.heap ∧ va_D (va_A w sz) (B u)) (va_A w sz)
abbrev CI {S : Type} (l : Launch) (y : MethodName) (ws : List Cond) (fr lo mc ms sz : Nat) (D : va_G) (K : State → Prop) (av : List Value) (w : va_W) (post : S → Prop) (B : S → va_W) : Prop :=
  Met l y ws ({ frames := fr, cells := mc, slots := ms, locals := lo }) (va_Pc av (fun U => U.heap.size = sz ∧ va_P D vwCl w U.heap ∧ K U ∧ va_D (fun _ => True) w)) (QI D w sz post B) mc ms (va_A w sz)
section TWC
variable {p : Program} {l : Launch} {e : Env} {R : Room} {s : State} {m : MethodId} {args : Array Value} {below : List Frame} {meth : Method} {c : Code} {H H0 : Heap} {locs : List Loc} {cells slots : Nat} {Q : State → Prop}
variable {pc : Nat} {ls : Array Slot} {rest st0 As : List Value} {D : va_G} {g : Nat → ClassId} {a : Array Value} {A0 : Nat → Prop} {cc : ByteArray}
theorem pw_k {w : va_W} (hK : KI D g s) (hP : va_P D vwCl w H) (hD : va_D A0 w) : PreS s H (va_Pc As (fun U => U.heap.size = H.size ∧ va_P D vwCl w U.heap ∧ KI D g U ∧ va_D (fun _ => True) w)) As :=
  ⟨fun a U f mk q => ⟨q.1, q.2.1, q.2.2.1, q.2.2.2.1.call, q.2.2.2.2⟩, fun U hU hW => ⟨rfl, by rw [hU], by rw [hU]; exact hP, hK.warm hW, hD.weaken (fun _ _ _ _ => trivial)⟩⟩
theorem tw_i {w v w1 : va_W} {r : Int32} (hr : va_Run p l e R s m args below meth c H locs cells slots 0 0 (F0 m pc ls st0) rest (QMi D w H.size w1 r a) (va_A w H.size)) (hT : TW D A0 w v H) (hS : va_S A0 H0 H locs) (hA : ∀ q, H0.size ≤ q → A0 q)
    (kk : ∀ (H1 : Heap) (locs1 : List Loc), TW D A0 w1 v H1 → va_S A0 H0 H1 locs1 → W p l e R s m args below meth c H1 locs1 cells slots Q (F0 m (pc + 3) ls (.int r :: rest))) : W p l e R s m args below meth c H locs cells slots Q (F0 m pc ls st0) := by
  have hFc := hT.free hS hA
  refine va_calli hr hS (fun q _ h => hFc q h) hFc (fun r2 u t H1 locs1 ht hvm hw hB hz1 hk1 hS => ?_)
  subst hw
  rw [ht] at hB
  exact kk H1 locs1 (hT.call hk1 hFc hB.1 hB.2) hS
theorem tw_l {w v w1 : va_W} {r : Int64} (hr : va_Run p l e R s m args below meth c H locs cells slots 0 0 (F0 m pc ls st0) rest (QMl D w H.size w1 r a) (va_A w H.size)) (hT : TW D A0 w v H) (hS : va_S A0 H0 H locs) (hA : ∀ q, H0.size ≤ q → A0 q)
    (kk : ∀ (H1 : Heap) (locs1 : List Loc), TW D A0 w1 v H1 → va_S A0 H0 H1 locs1 → W p l e R s m args below meth c H1 locs1 cells slots Q (F0 m (pc + 3) ls (.long r :: rest))) : W p l e R s m args below meth c H locs cells slots Q (F0 m pc ls st0) := by
  have hFc := hT.free hS hA
  refine va_calll hr hS (fun q _ h => hFc q h) hFc (fun r2 u t H1 locs1 ht hvm hw hB hz1 hk1 hS => ?_)
  subst hw
  rw [ht] at hB
  exact kk H1 locs1 (hT.call hk1 hFc hB.1 hB.2) hS
theorem tw_n {S : Type} {post : S → Prop} {B : S → va_W} {mc ms : Nat} {w v : va_W} (hr : va_Run p l e R s m args below meth c H locs cells slots mc ms (F0 m pc ls st0) rest (QI D w H.size post B a) (va_A w H.size)) (hT : TW D A0 w v H) (hS : va_S A0 H0 H locs) (hA : ∀ q, H0.size ≤ q → A0 q)
    (kk : ∀ (u : S) (H1 : Heap) (locs1 : List Loc), post u → TW D A0 (B u) v H1 → va_S A0 H0 H1 locs1 → W p l e R s m args below meth c H1 locs1 (cells + mc) (slots + ms) Q (F0 m (pc + 3) ls rest)) : W p l e R s m args below meth c H locs cells slots Q (F0 m pc ls st0) := by
  have hFc := hT.free hS hA
  refine va_callv hr hS (fun q _ h => hFc q h) hFc (fun u t H1 locs1 ht hvm hw hB hz1 hk1 hS => ?_)
  rw [ht] at hB
  exact kk u H1 locs1 hw (hT.call hk1 hFc hB.1 hB.2) hS
theorem tw_v {w v w1 : va_W} (hr : va_Run p l e R s m args below meth c H locs cells slots 0 0 (F0 m pc ls st0) rest (QMv D w H.size w1 a) (va_A w H.size)) (hT : TW D A0 w v H) (hS : va_S A0 H0 H locs) (hA : ∀ q, H0.size ≤ q → A0 q)
    (kk : ∀ (H1 : Heap) (locs1 : List Loc), TW D A0 w1 v H1 → va_S A0 H0 H1 locs1 → W p l e R s m args below meth c H1 locs1 cells slots Q (F0 m (pc + 3) ls rest)) : W p l e R s m args below meth c H locs cells slots Q (F0 m pc ls st0) := by
  have hFc := hT.free hS hA
  refine va_callv hr hS (fun q _ h => hFc q h) hFc (fun u t H1 locs1 ht hvm hw hB hz1 hk1 hS => ?_)
  rw [ht] at hB
  exact kk H1 locs1 (hT.call hk1 hFc hB.1 hB.2) hS
/-! new arrays, by the ids of their classes -/
theorem na_i {ws : va_W} (hx : p.tables.exec = Jvm.exec) (hb : c.code = cc) (harr : (Cond.arrayClass .int).before args s = true) (hK : KK D g s) (hP : va_P D vwCl ws H) (hD : va_D A0 ws) (hS : va_S A0 H0 H locs) (hA : ∀ q, H0.size ≤ q → A0 q) {n : Int32} {N' : Nat} (hn : ¬ n < 0) (hN : n.toNatClampNeg = N') (hbytes : N' * 4 ≤ 536870912) (hcells : cells + 1 ≤ R.cells) (hslots : slots + N' ≤ R.slots) (hdg : decode cc pc = .ok (.newarray .int, 2))
    (kk : ∀ (q : Nat) (H1 : Heap), va_P D vwCl (ws ++ [(q, .inl (g 0, N', .inl (fun _ => 0)))]) H1 → va_D A0 (ws ++ [(q, .inl (g 0, N', .inl (fun _ => 0)))]) → va_S A0 H0 H1 locs → W p l e R s m args below meth c H1 locs (cells + 1) (slots + N') Q (F0 m (pc + 2) ls (.ref q :: rest))) : W p l e R s m args below meth c H locs cells slots Q (F0 m pc ls (.int n :: rest)) := by
  refine va_newa (atype := .int) hx hb harr rfl hK.1 hP hD hS hA (a0 := (N', .inl (fun _ => 0))) (fun cA => rfl) hn hN hbytes hcells hslots hdg (fun q cA H1 hK1 hP1 hD1 hS1 => ?_)
  have h1 : va_RA s cA .int := (hK1.2 4 (cA, .int) rfl).2
  have h2 : va_RA s (g 0) .int := (hK.1.2 0 (g 0, .int) rfl).2
  have e1 : cA = g 0 := Option.some.inj (h1.symm.trans h2)
  subst e1
  exact kk q H1 hP1 hD1 hS1
theorem na_l {ws : va_W} (hx : p.tables.exec = Jvm.exec) (hb : c.code = cc) (harr : (Cond.arrayClass .long).before args s = true) (hK : KK D g s) (hP : va_P D vwCl ws H) (hD : va_D A0 ws) (hS : va_S A0 H0 H locs) (hA : ∀ q, H0.size ≤ q → A0 q) {n : Int32} {N' : Nat} (hn : ¬ n < 0) (hN : n.toNatClampNeg = N') (hbytes : N' * 8 ≤ 536870912) (hcells : cells + 1 ≤ R.cells) (hslots : slots + N' ≤ R.slots) (hdg : decode cc pc = .ok (.newarray .long, 2))
    (kk : ∀ (q : Nat) (H1 : Heap), va_P D vwCl (ws ++ [(q, .inl (g 1, N', .inr (.inl (fun _ => 0))))]) H1 → va_D A0 (ws ++ [(q, .inl (g 1, N', .inr (.inl (fun _ => 0))))]) → va_S A0 H0 H1 locs → W p l e R s m args below meth c H1 locs (cells + 1) (slots + N') Q (F0 m (pc + 2) ls (.ref q :: rest))) : W p l e R s m args below meth c H locs cells slots Q (F0 m pc ls (.int n :: rest)) := by
  refine va_newa (atype := .long) hx hb harr rfl hK.1 hP hD hS hA (a0 := (N', .inr (.inl (fun _ => 0)))) (fun cA => rfl) hn hN hbytes hcells hslots hdg (fun q cA H1 hK1 hP1 hD1 hS1 => ?_)
  have h1 : va_RA s cA .long := (hK1.2 4 (cA, .long) rfl).2
  have h2 : va_RA s (g 1) .long := (hK.1.2 1 (g 1, .long) rfl).2
  have e1 : cA = g 1 := Option.some.inj (h1.symm.trans h2)
  subst e1
  exact kk q H1 hP1 hD1 hS1
theorem na_b {ws : va_W} (hx : p.tables.exec = Jvm.exec) (hb : c.code = cc) (harr : (Cond.arrayClass .byte).before args s = true) (hK : KK D g s) (hP : va_P D vwCl ws H) (hD : va_D A0 ws) (hS : va_S A0 H0 H locs) (hA : ∀ q, H0.size ≤ q → A0 q) {n : Int32} {N' : Nat} (hn : ¬ n < 0) (hN : n.toNatClampNeg = N') (hbytes : N' * 1 ≤ 536870912) (hcells : cells + 1 ≤ R.cells) (hslots : slots + N' ≤ R.slots) (hdg : decode cc pc = .ok (.newarray .byte, 2))
    (kk : ∀ (q : Nat) (H1 : Heap), va_P D vwCl (ws ++ [(q, .inl (g 2, N', .inl (fun _ => 0)))]) H1 → va_D A0 (ws ++ [(q, .inl (g 2, N', .inl (fun _ => 0)))]) → va_S A0 H0 H1 locs → W p l e R s m args below meth c H1 locs (cells + 1) (slots + N') Q (F0 m (pc + 2) ls (.ref q :: rest))) : W p l e R s m args below meth c H locs cells slots Q (F0 m pc ls (.int n :: rest)) := by
  refine va_newa (atype := .byte) hx hb harr rfl hK.1 hP hD hS hA (a0 := (N', .inl (fun _ => 0))) (fun cA => rfl) hn hN hbytes hcells hslots hdg (fun q cA H1 hK1 hP1 hD1 hS1 => ?_)
  have h1 : va_RA s cA .byte := (hK1.2 4 (cA, .byte) rfl).2
  have h2 : va_RA s (g 2) .byte := (hK.1.2 2 (g 2, .byte) rfl).2
  have e1 : cA = g 2 := Option.some.inj (h1.symm.trans h2)
  subst e1
  exact kk q H1 hP1 hD1 hS1
theorem na_q {ws : va_W} {own : String} {index : Nat} (hx : p.tables.exec = Jvm.exec) (hb : c.code = cc) (hown : s.vm.findClass own = some m.cls) (hcl : (Cond.classLink own index "DecisionTableCompiler$Slot").before args s = true) (hK : KI D g s) (hP : va_P D vwCl ws H) (hD : va_D A0 ws) (hS : va_S A0 H0 H locs) (hA : ∀ q, H0.size ≤ q → A0 q) {n : Int32} {N' : Nat} (hn : ¬ n < 0) (hN : n.toNatClampNeg = N') (hbytes : N' * 4 ≤ 536870912) (hcells : cells + 1 ≤ R.cells) (hslots : slots + N' ≤ R.slots) (hdg : decode cc pc = .ok (.anewarray index, 3))
    (kk : ∀ (q : Nat) (H1 : Heap), va_P D vwCl (ws ++ [(q, .inl (g 3, N', .inr (.inr (.inr (.inr (fun _ => none))))))]) H1 → va_D A0 (ws ++ [(q, .inl (g 3, N', .inr (.inr (.inr (.inr (fun _ => none))))))]) → va_S A0 H0 H1 locs → W p l e R s m args below meth c H1 locs (cells + 1) (slots + N') Q (F0 m (pc + 3) ls (.ref q :: rest))) : W p l e R s m args below meth c H locs cells slots Q (F0 m pc ls (.int n :: rest)) := by
  refine va_newq hx hb hown hcl hK.2.1 hK.1.1 hP hD hS hA hn hN hbytes hcells hslots hdg (fun q cA H1 hK1 hP1 hD1 hS1 => ?_)
  obtain ⟨_, _, _, _, _, h1⟩ := (hK1.2 4 (cA, .object "DecisionTableCompiler$Slot") rfl).2
  obtain ⟨_, _, _, _, _, h2⟩ := (hK.1.1.2 3 (g 3, .object "DecisionTableCompiler$Slot") rfl).2
  have e1 : cA = g 3 := Option.some.inj (h1.symm.trans h2)
  subst e1
  exact kk q H1 hP1 hD1 hS1
end TWC
