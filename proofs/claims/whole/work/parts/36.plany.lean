/-! only the digits of the conditions count -/
def agr (T : Tb) (d d' : Nat → Nat) : Prop := ∀ c, c < tn T → d c = d' c
theorem agr_upf {T : Tb} {d d' : Nat → Nat} (h : agr T d d') (c v : Nat) : agr T (upf d c v) (upf d' c v) := fun i hi => by
  by_cases e : i = c
  · subst e; rw [upf_e, upf_e]
  · rw [upf_n d v e, upf_n d' v e]; exact h i hi
theorem oc_cong {T : Tb} {d d' : Nat → Nat} (h : agr T d d') : ∀ m, m ≤ tn T → oc T d m = oc T d' m
  | 0, _ => rfl
  | m + 1, hm => by rw [oc, oc, oc_cong h m (by omega), h m (by omega)]
theorem ffc {p q : Nat → Bool} : ∀ n, (∀ c, c < n → p c = q c) → fa_first p n = fa_first q n
  | 0, _ => rfl
  | n + 1, h => by rw [fa_first, fa_first, ffc n (fun c hc => h c (by omega)), h n (by omega)]
theorem isO_cong {T : Tb} {d d' : Nat → Nat} (h : agr T d d') : ∀ c, c < tn T → isO T d c = isO T d' c := fun c hc => by
  unfold isO
  rw [h c hc]
theorem fo_cong {T : Tb} {d d' : Nat → Nat} (h : agr T d d') : fo T d = fo T d' := ffc _ (isO_cong h)
theorem SS_cong {T : Tb} : ∀ m (d d' : Nat → Nat), agr T d d' → SS T m d = SS T m d'
  | 0, d, d', h => by rw [SS, SS, hor_cong _ h]
  | m + 1, d, d', h => by
    rw [SS, SS, fo_cong h, SS_cong m _ _ (agr_upf h _ 0)]
    exact sfo_cong _ (fun v _ => SS_cong m _ _ (agr_upf h _ v))
theorem Sv_cong {T : Tb} {d d' : Nat → Nat} (h : agr T d d') : Sv T d = Sv T d' := by
  unfold Sv
  rw [oc_cong h _ (Nat.le_refl _), SS_cong _ _ _ h]
theorem Wp_cong {T : Tb} {d d' : Nat → Nat} (h : agr T d d') : ∀ m, m ≤ tn T → Wp T d m = Wp T d' m
  | 0, _ => rfl
  | m + 1, hm => by
    rw [Wp, Wp, Wp_cong h m (by omega)]
    unfold wc
    rw [h m (by omega)]
theorem Wd_cong {T : Tb} {d d' : Nat → Nat} (h : agr T d d') : Wd T d = Wd T d' := Wp_cong h _ (Nat.le_refl _)
theorem mn_cong2 {p q : Nat → Bool} {f g : Nat → Nat} : ∀ n, (∀ c, c < n → p c = q c) → (∀ c, c < n → f c = g c) → mn p f n = mn q g n
  | 0, _, _ => rfl
  | n + 1, h, h2 => by rw [mn, mn, mn_cong2 n (fun c hc => h c (by omega)) (fun c hc => h2 c (by omega)), h n (by omega), h2 n (by omega)]
theorem RR_cong {T : Tb} : ∀ m (d d' : Nat → Nat), agr T d d' → RR T m d = RR T m d'
  | 0, d, d', _ => by rw [RR, RR]
  | m + 1, d, d', h => by
    rw [RR, RR, Sv_cong h, mn_cong2 (tn T) (isO_cong h) (fun c _ => by rw [Wd_cong h, fb_sm_cong (fun v _ => RR_cong m _ _ (agr_upf h c v))])]
theorem Rv_cong {T : Tb} {d d' : Nat → Nat} (h : agr T d d') : Rv T d = Rv T d' := by
  unfold Rv
  rw [oc_cong h _ (Nat.le_refl _), RR_cong _ _ _ h]
theorem kx_cong {T : Tb} {d d' : Nat → Nat} (h : agr T d d') : kx T d = kx T d' := hor_cong (T := up1 T) _ h
theorem dgs_agr {T : Tb} (hT : TOk T) {d : Nat → Nat} (hd : PD T d) : agr T (dgs T (kx T d)) d := fun c hc => by
  unfold dgs
  rw [if_pos hc]
  exact kx_dig hT hd hc
section P
variable {T : Tb} {tc tca tru tdf : Int32} {tsi tst tco twe tse tac trw : Nat → Int32} {ps pw pa : Nat → Int32} {prk : Nat → Int64}
theorem p_all (hT : TOk T) (hX : XT T tc tca tru tdf tsi tst tco twe tse tac trw) (hs : SPX T ps) (pw pa : Nat → Int32) (prk : Nat → Int64) : ∃ a, wl (fun q => f_X1_plan_s51 tc tru tdf tsi tst tco twe tac trw (nI (cas (up1 T))) ps q.1 q.2.1 q.2.2.1 q.2.2.2) 5000 ((0 : Int32), pw, pa, prk) = some (.inr a) ∧ a.1 = nI (cas (up1 T)) ∧ a.2.1 = ps ∧ ∀ d, PD T d → PXd T a.2.2.1 a.2.2.2.1 a.2.2.2.2 d := by
  have hcu := cub_le hT
  have key := wl_dn (f := fun q : Int32 × (Nat → Int32) × (Nat → Int32) × (Nat → Int64) => f_X1_plan_s51 tc tru tdf tsi tst tco twe tac trw (nI (cas (up1 T))) ps q.1 q.2.1 q.2.2.1 q.2.2.2) (fun k (q : Int32 × (Nat → Int32) × (Nat → Int32) × (Nat → Int64)) => q.1 = nI k ∧ PX T q.2.1 q.2.2.1 q.2.2.2 k) (cas (up1 T)) (P := fun a => ∃ b, a = .inr b ∧ b.1 = nI (cas (up1 T)) ∧ b.2.1 = ps ∧ ∀ d, PD T d → PXd T b.2.2.1 b.2.2.2.1 b.2.2.2.2 d) (fun k q hk hq => ?_) (fun q hq => ?_) (n := 5000) (by omega) ((0 : Int32), pw, pa, prk) ⟨rfl, fun d _ h => absurd h (Nat.not_lt_zero _)⟩
  · obtain ⟨a, h1, b, rfl, h2, h3, h4⟩ := key
    exact ⟨b, h1, h2, h3, h4⟩
  · obtain ⟨q1, q2, q3, q4⟩ := q
    obtain ⟨e1, hP⟩ := hq
    replace e1 : q1 = nI k := e1
    subst e1
    replace hP : PX T q2 q3 q4 k := hP
    obtain ⟨w1, w2, w3, g1, g2, g3, g4, g5⟩ := p_step hT hX hs hk hP
    refine ⟨(nI (k + 1), w1, w2, w3), g1, rfl, fun d hd hlt => ?_⟩
    show PXd T w1 w2 w3 d
    rcases Nat.lt_or_ge (kx T d) k with q | q
    · obtain ⟨a1, a2, a3⟩ := hP d hd q
      obtain ⟨b1, b2, b3⟩ := g5 _ q
      exact ⟨b1.trans a1, b2.trans a2, b3.trans a3⟩
    · have e : kx T d = k := by omega
      have ha := dgs_agr hT hd
      rw [e] at ha
      unfold PXd
      rw [e, ← Wd_cong ha, ← Sv_cong ha, ← Rv_cong ha]
      exact ⟨g2, g3, g4⟩
  · obtain ⟨q1, q2, q3, q4⟩ := q
    obtain ⟨e1, hP⟩ := hq
    replace e1 : q1 = nI (cas (up1 T)) := e1
    subst e1
    refine ⟨.inr (nI (cas (up1 T)), ps, q2, q3, q4), ?_, _, rfl, rfl, rfl, fun d hd => hP d hd (kx_lt hT hd)⟩
    show f_X1_plan_s51 tc tru tdf tsi tst tco twe tac trw (nI (cas (up1 T))) ps (nI (cas (up1 T))) q2 q3 q4 = _
    unfold f_X1_plan_s51
    rw [if_pos (Int32.le_refl _)]
def psj (T : Tb) (ps : Nat → Int32) (j : Nat) : Nat → Int32 := fun c => if tn T - j ≤ c ∧ c < tn T then nI (str (up1 T) c) else ps c
theorem p_plan (hT : TOk T) (hX : XT T tc tca tru tdf tsi tst tco twe tse tac trw) (pc : Int32) (ps pw pa : Nat → Int32) (prk : Nat → Int64) : ∃ ps' pw' pa' prk', f_X1_plan pc ps pw pa prk tc tru tdf tsi tst tco twe tac trw = some (nI (cas (up1 T)), ps', pw', pa', prk') ∧ SPX T ps' ∧ ∀ d, PD T d → PXd T pw' pa' prk' d := by
  have h1 := hT.n1
  have h4 := hT.n4
  have hsp : SPX T (psj T ps (tn T)) := fun c hc => by
    unfold psj
    rw [if_pos ⟨by omega, hc⟩]
  obtain ⟨⟨a1, a2, a3, a4, a5⟩, ha, e1, e2, hP⟩ := p_all hT hX hsp pw pa prk
  replace e1 : a1 = nI (cas (up1 T)) := e1
  replace e2 : a2 = psj T ps (tn T) := e2
  subst e1 e2
  refine ⟨_, _, _, _, ?_, hsp, hP⟩
  unfold f_X1_plan
  rw [nm_go]
  have e0 : (tc - (1 : Int32), (1 : Int32), ps) = (fun j => (nI (tn T - j) + (-1 : Int32), nI (pr (tz (up1 T)) (tn T - j) j), psj T ps j)) 0 := by
    show _ = (nI (tn T - 0) + (-1 : Int32), nI (pr (tz (up1 T)) (tn T - 0) 0), psj T ps 0)
    have : psj T ps 0 = ps := by
      funext c
      unfold psj
      rw [if_neg (by omega)]
    obtain ⟨m, hm⟩ : ∃ m, tn T = m + 1 := ⟨tn T - 1, by omega⟩
    rw [hX.n, this, Nat.sub_zero, hm, nI_d, show (1 : Int32) = nI 1 from rfl, pk_sub (by omega), Nat.add_sub_cancel]
    rfl
  rw [e0]
  refine wl_for (fun j => (nI (tn T - j) + (-1 : Int32), nI (pr (tz (up1 T)) (tn T - j) j), psj T ps j)) (tn T) (fun j hj => ?_) ?_ (by omega)
  · show f_X1_plan_s12 pw pa prk tc tru tdf tsi tst tco twe tac trw (nI (tn T - j) + (-1 : Int32)) (nI (pr (tz (up1 T)) (tn T - j) j)) (psj T ps j) = some (.inl (nI (tn T - (j + 1)) + (-1 : Int32), nI (pr (tz (up1 T)) (tn T - (j + 1)) (j + 1)), psj T ps (j + 1)))
    obtain ⟨m, hm⟩ : ∃ m, tn T - j = m + 1 := ⟨tn T - j - 1, by omega⟩
    unfold f_X1_plan_s12
    rw [hm, nI_d, if_neg (nI_pos (by omega)), ix_nI (by omega) (by decide), nI_clamp (by omega), nm_go, hX.z (by omega), nI_1, pk_mul, show tn T - (j + 1) = m by omega, pr, Nat.mul_comm (tz (up1 T) m)]
    have : upd (psj T ps j) m (nI (pr (tz (up1 T)) (m + 1) j)) = psj T ps (j + 1) := by
      funext c
      unfold upd psj
      by_cases e : c = m
      · rw [if_pos e, if_pos ⟨by omega, by omega⟩]
        subst e
        show _ = nI (pr (tz (up1 T)) (c + 1) (tn T - 1 - c))
        rw [show tn T - 1 - c = j by omega]
      · rw [if_neg e]
        by_cases e2 : tn T - j ≤ c ∧ c < tn T
        · rw [if_pos e2, if_pos ⟨by omega, e2.2⟩]
        · rw [if_neg e2, if_neg (fun w => e2 ⟨by omega, w.2⟩)]
    rw [this]
    rfl
  · show f_X1_plan_s12 pw pa prk tc tru tdf tsi tst tco twe tac trw (nI (tn T - tn T) + (-1 : Int32)) (nI (pr (tz (up1 T)) (tn T - tn T) (tn T))) (psj T ps (tn T)) = _
    unfold f_X1_plan_s12
    rw [Nat.sub_self, if_pos (by decide)]
    exact ha
/-- the root: all conditions open -/
def rot (T : Tb) : Nat → Nat := fun c => if c < tn T then tz T c else 0
theorem rot_pd (T : Tb) : PD T (rot T) := fun c _ => by
  unfold rot
  by_cases h : c < tn T
  · rw [if_pos h]; exact Nat.le_refl _
  · rw [if_neg h]; exact Nat.zero_le _
theorem kx_max (T : Tb) : ∀ m, m ≤ tn T → hor (up1 T) (rot T) m + 1 = pr (tz (up1 T)) 0 m
  | 0, _ => rfl
  | m + 1, h => by
    have ih := kx_max T m (by omega)
    have e : rot T m = tz T m := if_pos (by omega)
    rw [hor, pr_last, Nat.zero_add, ← ih, e, Nat.add_mul, Nat.one_mul]
    rfl
theorem kx_rot (T : Tb) : kx T (rot T) = cas (up1 T) - 1 := by
  have := kx_max T (tn T) (Nat.le_refl _)
  unfold kx cas
  show _ = pr (tz (up1 T)) 0 (tn T) - 1
  omega
theorem p_whole (hT : TOk T) : f_X1_whole (nI (cas (up1 T))) = some (nI (kx T (rot T))) := by
  have h := kx_lt hT (rot_pd T)
  unfold f_X1_whole
  rw [show (1 : Int32) = nI 1 from rfl, pk_sub (by omega), kx_rot]
theorem shr10 {a : Nat} (h : a < 2 ^ 62) : lN a >>> ((10 : Int32).toInt64 &&& 63) = lN (a / 1024) := pf_shr (d := 10) (by decide) h
theorem p_lowest (hT : TOk T) (hP : PXd T pw pa prk (rot T)) : f_X1_lowestCost (nI (cas (up1 T))) prk = some (lN (Rv T (rot T) / 1024)) := by
  have h := kx_lt hT (rot_pd T)
  have hcu := cub_le hT
  have hR := Rv_lt hT (rot T)
  unfold f_X1_lowestCost
  rw [p_whole hT, bd_go, rd_nI (by omega) (by decide), hP.2.2, shr10 (by omega)]
theorem p_costWith (hT : TOk T) (hX : XT T tc tca tru tdf tsi tst tco twe tse tac trw) (hs : SPX T ps) (hP : ∀ d, PD T d → PXd T pw pa prk d) {c : Nat} (hc : c < tn T) : f_X1_costWithTest (nI (cas (up1 T))) ps pw prk tsi tco (nI c) = some (lN (rt T (rot T) c / 1024)) := by
  have ho : rot T c = tz T c := if_pos hc
  have hR := (rt_b hT hc ho).2.2.1
  unfold f_X1_costWithTest
  rw [p_whole hT, bd_go, p_rank hT hX hs (rot_pd T) hc ho (hP _ (rot_pd T)).1 (fun v hv => (hP _ (PD_upf (rot_pd T) (by omega))).2.2), bd_go, shr10 (by omega)]
theorem p_best (hT : TOk T) (hX : XT T tc tca tru tdf tsi tst tco twe tse tac trw) (hs : SPX T ps) (hP : ∀ d, PD T d → PXd T pw pa prk d) {d : Nat → Nat} (hd : PD T d) : f_X1_bestTest ps pw pa prk tc tsi tco (nI (kx T d)) = some (if Sv T d = 11 then nI (bst T d) else (-1 : Int32)) := by
  have h4 := hT.n4
  have hk := kx_lt hT hd
  have hcu := cub_le hT
  have hR := Rv_lt hT d
  obtain ⟨p1, p2, p3⟩ := hP d hd
  unfold f_X1_bestTest
  rw [rd_nI (by omega) (by decide), p2]
  by_cases hS : Sv T d = 11
  · rw [if_pos ((sI_2 (Sv_le hT _)).mpr hS), if_pos hS]
    have hb := (bst_lt hT hS).1
    refine Eq.trans (wl_find (fun c => isO T d c && decide (rt T d c = Rv T d)) (tn T) (by omega) (fun c => nI c) (-1) (fun c hc hp => ?_) (fun c hc hp => ?_) ?_) ?_
    · unfold f_X1_bestTest_s15
      rw [hX.n, if_neg (nI_ge hc (by omega)), p_open hT hX hs hd hc, bd_go]
      cases ho : isO T d c with
      | false => rw [if_neg (by decide), nI_1]
      | true =>
        have ho' : d c = tz T c := of_decide_eq_true ho
        have hrt := (rt_b hT hc ho').2.2.1
        rw [if_pos rfl, p_rank hT hX hs hd hc ho' p1 (fun v hv => (hP _ (PD_upf hd (by omega))).2.2), bd_go, nI_clamp (by omega), nm_go, p3, if_neg (fun w => ?_), nI_1]
        rw [lg_cmp_eq, lN_eqb (by omega) (by omega)] at w
        have hp' : (isO T d c && decide (rt T d c = Rv T d)) = false := hp
        rw [ho, decide_eq_true w] at hp'
        exact absurd hp' (by decide)
    · obtain ⟨y1, y2⟩ := and_tt hp
      have ho' : d c = tz T c := of_decide_eq_true y1
      have hrt := (rt_b hT hc ho').2.2.1
      unfold f_X1_bestTest_s15
      rw [hX.n, if_neg (nI_ge hc (by omega)), p_open hT hX hs hd hc, bd_go, y1, if_pos rfl, p_rank hT hX hs hd hc ho' p1 (fun v hv => (hP _ (PD_upf hd (by omega))).2.2), bd_go, nI_clamp (by omega), nm_go, p3, if_pos]
      rw [lg_cmp_eq, lN_eqb (by omega) (by omega)]
      exact of_decide_eq_true y2
    · unfold f_X1_bestTest_s15
      rw [hX.n, if_pos (Int32.le_refl _)]
    · show some (if bst T d < tn T then nI (bst T d) else (-1 : Int32)) = _
      rw [if_pos hb]
  · rw [if_neg (fun w => hS ((sI_2 (Sv_le hT _)).mp w)), if_neg hS]
end P
