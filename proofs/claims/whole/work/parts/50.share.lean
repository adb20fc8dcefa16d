/-! equal subtrees, as the class finds them: all nodes, from the last one on -/
theorem dI_p (a : Nat) : dI a + (1 : Int32) = nI a := by
  cases a with
  | zero => decide
  | succ a => exact nI_1 a
theorem dI_q (p : Nat) : nI p + (-1 : Int32) = dI p := by
  cases p with
  | zero => decide
  | succ p => exact nI_d p
theorem dI_neg (p : Nat) (h : p < 2 ^ 31) : dI (p + 1) < 0 ↔ False := ⟨fun w => nI_pos h w, fun w => w.elim⟩
def SH1 (T : Tb) (p cnt : Nat) (K Lo : Nat → Nat) (cl lo : Nat → Int32) : Prop :=
  (∀ i, p ≤ i → i < (TL T).length → cl i = nI (K i) ∧ K i < cnt ∧ sg T (Lo (K i)) = sg T i ∧ Lo (K i) ≤ i) ∧
  (∀ i j, p ≤ i → i < (TL T).length → p ≤ j → j < (TL T).length → sg T i = sg T j → K i = K j) ∧
  (∀ c, c < cnt → lo c = nI (Lo c) ∧ p ≤ Lo c ∧ Lo c < (TL T).length ∧ K (Lo c) = c)
def SH2 (T : Tb) (p cnt : Nat) (Lo : Nat → Nat) (lf : Nat → Int32) : Prop :=
  (∀ a, a ≤ 10 → (∃ c, c < cnt ∧ lf a = nI c ∧ sg T (Lo c) = [(0, a)]) ∨ (lf a = -1 ∧ ∀ i, p ≤ i → i < (TL T).length → ¬ sg T i = [(0, a)])) ∧
  cnt ≤ tcp T p + fb_sm (fun a => if lf a = -1 then 0 else 1) 11
theorem updN_s (s : Nat → Nat) (c v : Nat) : updN s c v c = v := if_pos rfl
theorem updN_n (s : Nat → Nat) {c i : Nat} (v : Nat) (h : ¬ i = c) : updN s c v i = s i := if_neg h
theorem SH1_put {T : Tb} {p cnt c cnt' : Nat} {K Lo : Nat → Nat} {cl lo : Nat → Int32} (h : SH1 T (p + 1) cnt K Lo cl lo) (hp : p < (TL T).length) (hc : (c < cnt ∧ cnt' = cnt ∧ sg T (Lo c) = sg T p) ∨ (c = cnt ∧ cnt' = cnt + 1 ∧ ∀ i, p < i → i < (TL T).length → ¬ sg T i = sg T p)) : SH1 T p cnt' (updN K p c) (updN Lo c p) (upd cl p (nI c)) (upd lo c (nI p)) := by
  obtain ⟨h1, h2, h3⟩ := h
  have hcc : c < cnt' ∧ cnt ≤ cnt' := by rcases hc with q | q <;> omega
  have hx : ∀ j, p < j → j < (TL T).length → sg T p = sg T j → c = K j := fun j hj hjN e => by
    rcases hc with ⟨q1, q2, q3⟩ | ⟨q1, q2, q3⟩
    · obtain ⟨_, r2, r3, r4⟩ := h3 c q1
      have := h2 (Lo c) j r2 r3 (by omega) hjN (q3.trans e)
      omega
    · exact absurd e.symm (q3 j hj hjN)
  refine ⟨fun i hi hiN => ?_, fun i j hi hiN hj hjN e => ?_, fun c0 hc0 => ?_⟩
  · by_cases w : i = p
    · subst w
      rw [updN_s, updN_s]
      exact ⟨upd_s, hcc.1, rfl, Nat.le_refl _⟩
    · obtain ⟨a1, a2, a3, a4⟩ := h1 i (by omega) hiN
      rw [updN_n K c w]
      refine ⟨(upd_n w).trans a1, by omega, ?_⟩
      by_cases w2 : K i = c
      · rw [w2, updN_s]
        rcases hc with ⟨q1, q2, q3⟩ | ⟨q1, q2, q3⟩
        · rw [w2] at a3
          exact ⟨q3.symm.trans a3, hi⟩
        · omega
      · rw [updN_n Lo p w2]
        exact ⟨a3, a4⟩
  · by_cases w : i = p
    · subst w
      by_cases w2 : j = i
      · subst w2; rfl
      · rw [updN_s, updN_n K c w2]
        exact hx j (by omega) hjN e
    · rw [updN_n K c w]
      by_cases w2 : j = p
      · subst w2
        rw [updN_s]
        exact (hx i (by omega) hiN e.symm).symm
      · rw [updN_n K c w2]
        exact h2 i j (by omega) hiN (by omega) hjN e
  · by_cases w : c0 = c
    · subst w
      rw [updN_s, updN_s]
      exact ⟨upd_s, Nat.le_refl _, hp, rfl⟩
    · obtain ⟨a1, a2, a3, a4⟩ := h3 c0 (by rcases hc with q | q <;> omega)
      rw [updN_n Lo p w, updN_n K c (show ¬ Lo c0 = p by omega)]
      exact ⟨(upd_n w).trans a1, by omega, a3, a4⟩
/-- an old class -/
theorem SH2_old {T : Tb} {p cnt c : Nat} {K Lo : Nat → Nat} {cl lo lf : Nat → Int32} (h1 : SH1 T (p + 1) cnt K Lo cl lo) (h : SH2 T (p + 1) cnt Lo lf) (hp : p < (TL T).length) (hc : c < cnt) (e : sg T (Lo c) = sg T p) : SH2 T p cnt (updN Lo c p) lf := by
  obtain ⟨q, hq⟩ := TL_get hp
  have ht := tcp_s hq
  refine ⟨fun a ha => ?_, by have := h.2; omega⟩
  rcases h.1 a ha with ⟨c0, g1, g2, g3⟩ | ⟨g1, g2⟩
  · refine Or.inl ⟨c0, g1, g2, ?_⟩
    by_cases w : c0 = c
    · subst w
      rw [updN_s, ← e]
      exact g3
    · rw [updN_n Lo p w]
      exact g3
  · refine Or.inr ⟨g1, fun i hi hiN => ?_⟩
    by_cases w : i = p
    · subst w
      rw [← e]
      obtain ⟨_, r2, r3, _⟩ := h1.2.2 c hc
      exact g2 _ r2 r3
    · exact g2 i (by omega) hiN
/-- a new class of tests -/
theorem SH2_test {T : Tb} {p cnt : Nat} {Lo : Nat → Nat} {lf : Nat → Int32} {q : Nd} (h : SH2 T (p + 1) cnt Lo lf) (hq : (TL T)[p]? = some q) (hq1 : ¬ q.1 = 0) (e : ∀ a, ¬ sg T p = [(0, a)]) : SH2 T p (cnt + 1) (updN Lo cnt p) lf := by
  have ht := tcp_s hq
  rw [if_neg hq1] at ht
  refine ⟨fun a ha => ?_, by have := h.2; omega⟩
  rcases h.1 a ha with ⟨c0, g1, g2, g3⟩ | ⟨g1, g2⟩
  · refine Or.inl ⟨c0, by omega, g2, ?_⟩
    rw [updN_n Lo p (show ¬ c0 = cnt by omega)]
    exact g3
  · refine Or.inr ⟨g1, fun i hi hiN => ?_⟩
    by_cases w : i = p
    · subst w
      exact e a
    · exact g2 i (by omega) hiN
/-- a new class of leaves -/
theorem SH2_leaf {T : Tb} {p cnt a : Nat} {Lo : Nat → Nat} {lf : Nat → Int32} (h : SH2 T (p + 1) cnt Lo lf) (hp : p < (TL T).length) (hcn : cnt < 2 ^ 31) (ha : a ≤ 10) (hl : lf a = -1) (e : sg T p = [(0, a)]) : SH2 T p (cnt + 1) (updN Lo cnt p) (upd lf a (nI cnt)) := by
  obtain ⟨q, hq⟩ := TL_get hp
  have ht := tcp_s hq
  have hsum : fb_sm (fun k => if upd lf a (nI cnt) k = -1 then 0 else 1) 11 = fb_sm (fun k => if lf k = -1 then 0 else 1) 11 + 1 := by
    have h1 := fb_sm_upd (fun k => if lf k = -1 then 0 else 1) 1 (i := a) (n := 11) (by omega)
    rw [if_pos hl] at h1
    rw [← h1, Nat.add_zero]
    refine fb_sm_cong (fun k hk => ?_)
    by_cases w : k = a
    · subst w
      rw [upd_s, if_neg (nI_m1 hcn), if_pos rfl]
    · rw [upd_n w, if_neg w]
  refine ⟨fun b hb => ?_, by have := h.2; omega⟩
  by_cases w : b = a
  · subst w
    exact Or.inl ⟨cnt, by omega, upd_s, by rw [updN_s]; exact e⟩
  · rw [upd_n w]
    rcases h.1 b hb with ⟨c0, g1, g2, g3⟩ | ⟨g1, g2⟩
    · refine Or.inl ⟨c0, by omega, g2, ?_⟩
      rw [updN_n Lo p (show ¬ c0 = cnt by omega)]
      exact g3
    · refine Or.inr ⟨g1, fun i hi hiN => ?_⟩
      by_cases w2 : i = p
      · subst w2
        rw [e]
        intro u
        injection u with u1 _
        exact w (congrArg Prod.snd u1).symm
      · exact g2 i (by omega) hiN
theorem fb_11 {lf : Nat → Int32} : fb_sm (fun a => if lf a = -1 then 0 else 1) 11 ≤ 11 := by
  have := fb_sm_bound (f := fun a => if lf a = -1 then 0 else 1) (c := 1) (n := 11) (fun k _ => by show (if lf k = -1 then 0 else 1) ≤ 1; split <;> omega)
  omega
theorem fb_10 {lf : Nat → Int32} {a : Nat} (ha : a ≤ 10) (hl : lf a = -1) : fb_sm (fun a => if lf a = -1 then 0 else 1) 11 ≤ 10 := by
  have h1 := fb_sm_upd (fun k => if lf k = -1 then 0 else 1) 1 (i := a) (n := 11) (by omega)
  have h2 := fb_sm_bound (f := fun k => if k = a then 1 else (if lf k = -1 then 0 else 1)) (c := 1) (n := 11) (fun k _ => by show (if k = a then 1 else (if lf k = -1 then 0 else 1)) ≤ 1; split <;> (try split) <;> omega)
  rw [if_pos hl] at h1
  omega
section C
variable {T : Tb} {tc tca tru tdf : Int32} {tsi tst tco twe tse tac trw : Nat → Int32} {et ea ee ed : Nat → Int32}
theorem x_equalTest (hT : TOk T) (hX : XT T tc tca tru tdf tsi tst tco twe tse tac trw) (hA : XA et ea ee ed 0 (TL T)) {p : Nat} {K : Nat → Nat} {cl : Nat → Int32} (hK : ∀ i, p < i → i < (TL T).length → cl i = nI (K i) ∧ K i < 5000) (hE : ∀ i j, p < i → i < (TL T).length → p < j → j < (TL T).length → (K i = K j ↔ sg T i = sg T j)) {m dep sp : Nat} {d : Nat → Nat} (hoc : oc T d (tn T) = m + 1) (hS : Sv T d = 11) (hs : SEG T (TL T) p (m + 1) d dep sp) {cnt : Nat} (hc : cnt ≤ 167) {Lo : Nat → Nat} {lo : Nat → Int32} (hLo : ∀ c, c < cnt → lo c = nI (Lo c) ∧ p < Lo c ∧ Lo c < (TL T).length) : f_X5_equalTest (nI (TL T).length) (nI cnt) et ee cl lo tsi (nI p) = some (if fa_first (fun c => decide (sg T p = sg T (Lo c))) cnt < cnt then nI (fa_first (fun c => decide (sg T p = sg T (Lo c))) cnt) else -1) := by
  unfold f_X5_equalTest
  refine wl_find (fun c => decide (sg T p = sg T (Lo c))) cnt (by omega) (fun c => nI c) (-1) (fun c hc1 hp => ?_) (fun c hc1 hp => ?_) ?_
  · obtain ⟨a1, a2, a3⟩ := hLo c hc1
    unfold f_X5_equalTest_s2
    rw [if_neg (nI_ge hc1 (by omega)), rd_nI (by omega) (by decide), a1, x_sameTest hT hX hA hK hE hoc hS hs a2 a3, bd_go, hp, if_neg (by decide), nI_1]
  · obtain ⟨a1, a2, a3⟩ := hLo c hc1
    unfold f_X5_equalTest_s2
    rw [if_neg (nI_ge hc1 (by omega)), rd_nI (by omega) (by decide), a1, x_sameTest hT hX hA hK hE hoc hS hs a2 a3, bd_go, hp, if_pos rfl]
  · unfold f_X5_equalTest_s2
    rw [if_pos (Int32.le_refl _)]
theorem x_shareStep (hT : TOk T) (hX : XT T tc tca tru tdf tsi tst tco twe tse tac trw) (hA : XA et ea ee ed 0 (TL T)) {p cnt : Nat} (hp : p < (TL T).length) {K Lo : Nat → Nat} {cl lo lf : Nat → Int32} (h1 : SH1 T (p + 1) cnt K Lo cl lo) (h2 : SH2 T (p + 1) cnt Lo lf) : ∃ cnt' K' Lo' cl' lo' lf', f_X5_share_s20 (nI (TL T).length) et ea ee tsi (dI (p + 1)) (nI cnt) cl lo lf = some (.inl (dI p, nI cnt', cl', lo', lf')) ∧ SH1 T p cnt' K' Lo' cl' lo' ∧ SH2 T p cnt' Lo' lf' := by
  have hb := TL_b hT
  have h4 := hT.n4
  have h156 := tcp_le hT p
  have h11 := fb_11 (lf := lf)
  obtain ⟨m, d, dep, sp, g1, g2, g3, g4⟩ := TL_seg hT hp
  have hq := seg_get hT g1 g4
  have htc := tcp_s hq
  have hcnt := h2.2
  obtain ⟨a1, a2, a3, a4⟩ := hA p _ hq
  rw [Nat.zero_add] at a1 a2
  show ∃ cnt' K' Lo' cl' lo' lf', f_X5_share_s20 (nI (TL T).length) et ea ee tsi (nI p) (nI cnt) cl lo lf = _ ∧ _
  unfold f_X5_share_s20
  rw [if_neg (nI_pos (by omega)), rd_nI (by omega) (by decide), a1, nI_clamp (by omega), dI_q]
  by_cases hS : Sv T d = 11
  · obtain ⟨b1, b2, b3⟩ := bst_lt hT hS
    obtain ⟨k, hk⟩ := oc_suc hT hS
    obtain rfl : m = k + 1 := by omega
    rw [hdq_t hS, if_neg (Nat.succ_ne_zero _)] at htc
    have hK : ∀ i, p < i → i < (TL T).length → cl i = nI (K i) ∧ K i < 5000 := fun i hi hiN => by
      obtain ⟨r1, r2, _, _⟩ := h1.1 i hi hiN
      exact ⟨r1, by omega⟩
    have hE : ∀ i j, p < i → i < (TL T).length → p < j → j < (TL T).length → (K i = K j ↔ sg T i = sg T j) := fun i j hi hiN hj hjN => ⟨fun e => by
      have r1 := (h1.1 i hi hiN).2.2.1
      have r2 := (h1.1 j hj hjN).2.2.1
      rw [← r1, ← r2, e], fun e => h1.2.1 i j hi hiN hj hjN e⟩
    have hLo : ∀ c, c < cnt → lo c = nI (Lo c) ∧ p < Lo c ∧ Lo c < (TL T).length := fun c hc => by
      obtain ⟨r1, r2, r3, _⟩ := h1.2.2 c hc
      exact ⟨r1, r2, r3⟩
    rw [hdq_t hS, show dI (bst T d + 1) = nI (bst T d) from rfl, if_neg (nI_m1 (by omega)), x_equalTest hT hX hA hK hE hk hS g4 (by omega) hLo, bd_go]
    by_cases w : fa_first (fun c => decide (sg T p = sg T (Lo c))) cnt < cnt
    · have hy := of_decide_eq_true (fa_first_yes (fun c => decide (sg T p = sg T (Lo c))) cnt w)
      generalize fa_first (fun c => decide (sg T p = sg T (Lo c))) cnt = c at w hy ⊢
      rw [if_pos w, if_pos (nI_pos' (by omega)), ix_nI (by omega) (by decide), nI_clamp (by omega)]
      exact ⟨cnt, _, _, _, _, _, rfl, SH1_put h1 hp (Or.inl ⟨w, rfl, hy.symm⟩), SH2_old h1 h2 hp w hy.symm⟩
    · rw [if_neg w, if_neg (by decide), ix_nI (by omega) (by decide), nI_clamp (by omega), nI_1]
      refine ⟨cnt + 1, _, _, _, _, _, rfl, SH1_put h1 hp (Or.inr ⟨rfl, rfl, fun i hi hiN e => ?_⟩), SH2_test h2 hq (by rw [hdq_t hS]; exact Nat.succ_ne_zero _) (fun a e => ?_)⟩
      · obtain ⟨r1, r2, r3, r4⟩ := h1.1 i hi hiN
        have hle := fa_first_le (fun c => decide (sg T p = sg T (Lo c))) cnt
        exact of_decide_eq_false (fa_first_no (fun c => decide (sg T p = sg T (Lo c))) cnt (K i) (by omega)) (e.symm.trans r3.symm)
      · rw [sg_cons hT hk hS g4] at e
        injection e with e1 _
        have : bst T d + 1 = 0 := congrArg Prod.fst e1
        omega
  · have hsg := sg_leaf hT g1 hS g4
    have hle := Sv_le hT d
    have ha2 : (hdq T d dep sp).2.1 = Sv T d := by unfold hdq; rw [if_neg hS]
    rw [hdq_l hS, if_pos rfl] at htc
    rw [ha2] at a2
    rw [hdq_l hS, if_pos (show dI 0 = (-1 : Int32) from rfl), a2, nm_go, dI_p, rd_nI (by omega) (by decide), nI_clamp (by omega)]
    rcases h2.1 (Sv T d) (by omega) with ⟨c, r1, r2, r3⟩ | ⟨r1, r2⟩
    · rw [r2, if_pos (nI_pos' (by omega)), ix_nI (by omega) (by decide), nI_clamp (by omega)]
      have eu : upd lf (Sv T d) (nI c) = lf := funext (fun j => by
        by_cases w : j = Sv T d
        · subst w; exact upd_s.trans r2.symm
        · exact upd_n w)
      rw [eu]
      exact ⟨cnt, _, _, _, _, _, rfl, SH1_put h1 hp (Or.inl ⟨r1, rfl, r3.trans hsg.symm⟩), SH2_old h1 h2 hp r1 (r3.trans hsg.symm)⟩
    · have h10 := fb_10 (lf := lf) (a := Sv T d) (by omega) r1
      rw [r1, if_neg (by decide), ix_nI (by omega) (by decide), nI_clamp (by omega), nI_1]
      exact ⟨cnt + 1, _, _, _, _, _, rfl, SH1_put h1 hp (Or.inr ⟨rfl, rfl, fun i hi hiN e => r2 i hi hiN (e.trans hsg)⟩), SH2_leaf h2 hp (by omega) (by omega) r1 hsg⟩
theorem x_share (hT : TOk T) (hX : XT T tc tca tru tdf tsi tst tco twe tse tac trw) (hA : XA et ea ee ed 0 (TL T)) (cc : Int32) (cl lo lf : Nat → Int32) : ∃ cnt K Lo cl' lo' lf', f_X5_share (nI (TL T).length) cc et ea ee cl lo lf tsi = some (nI cnt, cl', lo', lf') ∧ SH1 T 0 cnt K Lo cl' lo' ∧ SH2 T 0 cnt Lo lf' := by
  have hb := TL_b hT
  unfold f_X5_share
  have key := wl_dn (f := fun q : Int32 × Int32 × (Nat → Int32) × (Nat → Int32) × (Nat → Int32) => f_X5_share_s20 (nI (TL T).length) et ea ee tsi q.1 q.2.1 q.2.2.1 q.2.2.2.1 q.2.2.2.2) (fun i (q : Int32 × Int32 × (Nat → Int32) × (Nat → Int32) × (Nat → Int32)) => ∃ cnt K Lo, q.1 = dI ((TL T).length - i) ∧ q.2.1 = nI cnt ∧ SH1 T ((TL T).length - i) cnt K Lo q.2.2.1 q.2.2.2.1 ∧ SH2 T ((TL T).length - i) cnt Lo q.2.2.2.2) (TL T).length (P := fun a => ∃ cnt K Lo, a.1 = nI cnt ∧ SH1 T 0 cnt K Lo a.2.1 a.2.2.1 ∧ SH2 T 0 cnt Lo a.2.2.2) (fun i q hi hq => ?_) (fun q hq => ?_) (n := 5000) (by omega) (nI (TL T).length - (1 : Int32), (0 : Int32), cl, lo, fil 11 (-1) lf) ⟨0, fun _ => 0, fun _ => 0, ?_, rfl, ⟨fun i h1 h2 => ?_, fun i j h1 h2 => ?_, fun c h => absurd h (Nat.not_lt_zero c)⟩, fun a ha => Or.inr ⟨if_pos (by omega), fun i h1 h2 => ?_⟩, Nat.zero_le _⟩
  · obtain ⟨⟨a1, a2, a3, a4⟩, h1, cnt, K, Lo, h2, h3, h4⟩ := key
    replace h2 : a1 = nI cnt := h2
    subst h2
    exact ⟨cnt, K, Lo, a2, a3, a4, h1, h3, h4⟩
  · obtain ⟨q1, q2, q3, q4, q5⟩ := q
    obtain ⟨cnt, K, Lo, g1, g2, g3, g4⟩ := hq
    replace g1 : q1 = dI ((TL T).length - i) := g1
    replace g2 : q2 = nI cnt := g2
    subst g1
    subst g2
    replace g3 : SH1 T ((TL T).length - i) cnt K Lo q3 q4 := g3
    replace g4 : SH2 T ((TL T).length - i) cnt Lo q5 := g4
    rw [show (TL T).length - i = ((TL T).length - (i + 1)) + 1 by omega] at g3 g4
    obtain ⟨cnt', K', Lo', cl', lo', lf', e, r1, r2⟩ := x_shareStep hT hX hA (p := (TL T).length - (i + 1)) (by omega) g3 g4
    refine ⟨(dI ((TL T).length - (i + 1)), nI cnt', cl', lo', lf'), ?_, cnt', K', Lo', rfl, rfl, r1, r2⟩
    show f_X5_share_s20 (nI (TL T).length) et ea ee tsi (dI ((TL T).length - i)) (nI cnt) q3 q4 q5 = _
    rw [show (TL T).length - i = ((TL T).length - (i + 1)) + 1 by omega]
    exact e
  · obtain ⟨q1, q2, q3, q4, q5⟩ := q
    obtain ⟨cnt, K, Lo, g1, g2, g3, g4⟩ := hq
    rw [Nat.sub_self] at g1 g3 g4
    replace g1 : q1 = dI 0 := g1
    replace g2 : q2 = nI cnt := g2
    subst g1
    subst g2
    refine ⟨(nI cnt, q3, q4, q5), ?_, cnt, K, Lo, rfl, g3, g4⟩
    show f_X5_share_s20 (nI (TL T).length) et ea ee tsi (dI 0) (nI cnt) q3 q4 q5 = _
    unfold f_X5_share_s20
    rw [if_pos (show dI 0 < (0 : Int32) by decide)]
  · show nI (TL T).length - (1 : Int32) = dI ((TL T).length - 0)
    obtain ⟨n, hn⟩ : ∃ n, (TL T).length = n + 1 := ⟨(TL T).length - 1, by omega⟩
    rw [hn, nI_pred, Nat.sub_zero]
    rfl
  · omega
  · omega
  · omega
end C
