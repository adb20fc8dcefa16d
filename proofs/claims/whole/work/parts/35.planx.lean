/-! the plan, as the class makes it -/
def up1 (T : Tb) : Tb := (tn T, fun c => tz T c + 1, tw T, tk T, tr T, ts T, ta T, td T)
def kx (T : Tb) (d : Nat → Nat) : Nat := hor (up1 T) d (tn T)
def sI (s : Nat) : Int32 := if s = 11 then -2 else dI s
theorem pr_leb {z : Nat → Nat} {b : Nat} (h : ∀ c, z c ≤ b) : ∀ m c, pr z c m ≤ b ^ m
  | 0, _ => Nat.le_refl _
  | m + 1, c => by
    rw [pr, Nat.pow_succ, Nat.mul_comm (b ^ m)]
    exact Nat.mul_le_mul (h c) (pr_leb h m (c + 1))
theorem cub_le {T : Tb} (hT : TOk T) : cas (up1 T) ≤ 1296 := by
  have h1 := pr_leb (z := tz (up1 T)) (b := 6) (fun c => Nat.succ_le_succ (hT.z5 c)) (tn T) 0
  have h2 : 6 ^ tn T ≤ 6 ^ 4 := Nat.pow_le_pow_right (by decide) hT.n4
  exact Nat.le_trans h1 h2
theorem st1_le {T : Tb} (hT : TOk T) (c : Nat) : str (up1 T) c ≤ 1296 := by
  have h1 := pr_leb (z := tz (up1 T)) (b := 6) (fun c => Nat.succ_le_succ (hT.z5 c)) (tn T - 1 - c) (c + 1)
  have h2 : 6 ^ (tn T - 1 - c) ≤ 6 ^ 4 := Nat.pow_le_pow_right (by decide) (by have := hT.n4; omega)
  exact Nat.le_trans h1 h2
theorem st1_pos (T : Tb) (c : Nat) : 0 < str (up1 T) c := pr_pos _ _ (fun _ _ _ => Nat.succ_pos _)
theorem kx_lt {T : Tb} (hT : TOk T) {d : Nat → Nat} (h : PD T d) : kx T d < cas (up1 T) := hor_cas (T := up1 T) (fun c hc => Nat.lt_succ_of_le (h c (by have : c < tn T := hc; have := hT.n4; omega)))
theorem kx_dig {T : Tb} (hT : TOk T) {d : Nat → Nat} (h : PD T d) {c : Nat} (hc : c < tn T) : kx T d / str (up1 T) c % (tz T c + 1) = d c := dig_hor (T := up1 T) (fun c hc => Nat.lt_succ_of_le (h c (by have : c < tn T := hc; have := hT.n4; omega))) hc
theorem kx_sum (T : Tb) (d : Nat → Nat) : fb_sm (fun c => d c * str (up1 T) c) (tn T) = kx T d := hor_all (up1 T) d
theorem kx_upf {T : Tb} {d : Nat → Nat} {c v : Nat} (hc : c < tn T) : kx T (upf d c v) + d c * str (up1 T) c = kx T d + v * str (up1 T) c := by
  rw [← kx_sum, ← kx_sum]
  have e : ∀ i, i < tn T → upf d c v i * str (up1 T) i = (fun k => if k = c then v * str (up1 T) c else d k * str (up1 T) k) i := fun i _ => by
    show _ = if i = c then v * str (up1 T) c else d i * str (up1 T) i
    by_cases w : i = c
    · subst w; rw [upf_e, if_pos rfl]
    · rw [upf_n d v w, if_neg w]
  rw [fb_sm_cong e]
  exact fb_sm_upd (fun c => d c * str (up1 T) c) _ hc
/-- every cube is a part -/
theorem hor_dig {T : Tb} (hz : ∀ c, 0 < tz T c) (k : Nat) : ∀ m, m ≤ tn T → hor T (fun c => dig T k c) m = k / pr (tz T) m (tn T - m) % pr (tz T) 0 m
  | 0, _ => by rw [hor, pr, Nat.mod_one]
  | m + 1, h => by
    have e1 : pr (tz T) m (tn T - m) = tz T m * pr (tz T) (m + 1) (tn T - (m + 1)) := by
      obtain ⟨j, hj⟩ : ∃ j, tn T - m = j + 1 := ⟨tn T - m - 1, by omega⟩
      rw [hj, pr, show tn T - (m + 1) = j by omega]
    rw [hor, hor_dig hz k m (by omega), pr_last, Nat.zero_add, e1]
    have e2 : str T m = pr (tz T) (m + 1) (tn T - (m + 1)) := by
      unfold str
      rw [show tn T - 1 - m = tn T - (m + 1) by omega]
    unfold dig
    rw [e2, Nat.mul_comm (tz T m), ← Nat.div_div_eq_div_mul]
    generalize k / pr (tz T) (m + 1) (tn T - (m + 1)) = q
    have h0 := hz m
    generalize pr (tz T) 0 m = P
    generalize tz T m = Z at h0
    rw [Nat.mul_comm P Z, Nat.mod_mul, Nat.mul_comm, Nat.add_comm]
def dgs (T : Tb) (k : Nat) : Nat → Nat := fun c => if c < tn T then dig (up1 T) k c else 0
theorem dgs_pd {T : Tb} (hT : TOk T) (k : Nat) : PD T (dgs T k) := fun c _ => by
  unfold dgs
  by_cases h : c < tn T
  · rw [if_pos h]
    have : dig (up1 T) k c < tz T c + 1 := Nat.mod_lt _ (Nat.succ_pos _)
    omega
  · rw [if_neg h]; exact Nat.zero_le _
theorem dgs_kx {T : Tb} {k : Nat} (h : k < cas (up1 T)) : kx T (dgs T k) = k := by
  unfold kx
  rw [hor_cong (T := up1 T) (v := dgs T k) (u := fun c => dig (up1 T) k c) (tn T) (fun c hc => if_pos hc), hor_dig (T := up1 T) (fun _ => Nat.succ_pos _) k (tn T) (Nat.le_refl _)]
  show k / pr (tz (up1 T)) (tn T) (tn T - tn T) % cas (up1 T) = k
  rw [Nat.sub_self, pr, Nat.div_one, Nat.mod_eq_of_lt h]
theorem sI_inj {a b : Nat} (ha : a ≤ 11) (hb : b ≤ 11) : sI a = sI b ↔ a = b := by
  constructor
  · have key : ∀ a, a < 12 → ∀ b, b < 12 → sI a = sI b → a = b := by decide
    exact key a (by omega) b (by omega)
  · intro h; rw [h]
theorem sI_2 {a : Nat} (ha : a ≤ 11) : sI a = (-2 : Int32) ↔ a = 11 := sI_inj (b := 11) ha (Nat.le_refl _)
theorem lN_ltb {a b : Nat} (ha : a < 2 ^ 63) (hb : b < 2 ^ 63) : lN a < lN b ↔ a < b := by rw [fa_lt64, pf_lI ha, pf_lI hb]; omega
theorem lN_eqb {a b : Nat} (ha : a < 2 ^ 63) (hb : b < 2 ^ 63) : lN a = lN b ↔ a = b := by rw [fa_eq64, pf_lI ha, pf_lI hb]; omega
def SPX (T : Tb) (ps : Nat → Int32) : Prop := ∀ c, c < tn T → ps c = nI (str (up1 T) c)
def PXd (T : Tb) (pw pa : Nat → Int32) (pr : Nat → Int64) (d : Nat → Nat) : Prop := pw (kx T d) = nI (Wd T d) ∧ pa (kx T d) = sI (Sv T d) ∧ pr (kx T d) = lN (Rv T d)
section P
variable {T : Tb} {tc tca tru tdf : Int32} {tsi tst tco twe tse tac trw : Nat → Int32} {ps pw pa : Nat → Int32} {prk : Nat → Int64}
theorem p_dig (hT : TOk T) (hX : XT T tc tca tru tdf tsi tst tco twe tse tac trw) (hs : SPX T ps) {d : Nat → Nat} (hd : PD T d) {c : Nat} (hc : c < tn T) : f_X1_digitIn ps tsi (nI (kx T d)) (nI c) = some (nI (d c)) := by
  have h4 := hT.n4
  have h5 := hT.z5 c
  have hk := kx_lt hT hd
  have hcu := cub_le hT
  have hs1 := st1_le hT c
  unfold f_X1_digitIn
  rw [rd_nI (by omega) (by decide), hs c hc, x_quot (by omega) (st1_pos T c) (by omega), bd_go, nI_clamp (by omega), nm_go, hX.z (by omega), nI_1, x_rem (by have := Nat.div_le_self (kx T d) (str (up1 T) c); omega) (by omega) (by omega), bd_go, kx_dig hT hd hc]
theorem p_open (hT : TOk T) (hX : XT T tc tca tru tdf tsi tst tco twe tse tac trw) (hs : SPX T ps) {d : Nat → Nat} (hd : PD T d) {c : Nat} (hc : c < tn T) : f_X1_isOpen ps tsi (nI (kx T d)) (nI c) = some (isO T d c) := by
  have h4 := hT.n4
  have h5 := hT.z5 c
  have hdc := hd c (by omega)
  unfold f_X1_isOpen isO
  rw [p_dig hT hX hs hd hc, bd_go, rd_nI (by omega) (by decide), hX.z (by omega)]
  by_cases e : d c = tz T c
  · rw [if_pos (by rw [e]), decide_eq_true e]
  · rw [if_neg (fun w => e ((nI_eq (by omega) (by omega)).mp w)), decide_eq_false e]
theorem p_part (hT : TOk T) (hX : XT T tc tca tru tdf tsi tst tco twe tse tac trw) (hs : SPX T ps) {d : Nat → Nat} {c v : Nat} (hc : c < tn T) (ho : d c = tz T c) (hv : v ≤ tz T c) : f_X1_part ps tsi (nI (kx T d)) (nI c) (nI v) = some (nI (kx T (upf d c v))) := by
  have h4 := hT.n4
  have e := kx_upf (T := T) (d := d) (v := v) hc
  rw [ho] at e
  have hm : (tz T c - v) * str (up1 T) c + v * str (up1 T) c = tz T c * str (up1 T) c := by rw [← Nat.add_mul, Nat.sub_add_cancel hv]
  unfold f_X1_part
  rw [rd_nI (by omega) (by decide), nI_clamp (by omega), nm_go, hs c hc, hX.z (by omega), pk_sub hv, pk_mul, pk_sub (by omega)]
  congr 2
  omega
theorem p_parts (hT : TOk T) (hX : XT T tc tca tru tdf tsi tst tco twe tse tac trw) (hs : SPX T ps) {d : Nat → Nat} (hd : PD T d) (hf : fo T d < tn T) (hp : ∀ v, v < tz T (fo T d) → pw (kx T (upf d (fo T d) v)) = nI (Wd T (upf d (fo T d) v)) ∧ pa (kx T (upf d (fo T d) v)) = sI (Sv T (upf d (fo T d) v))) : f_X1_gatherParts ps pw pa tsi (nI (kx T d)) (nI (fo T d)) = some (upd pw (kx T d) (nI (Wd T d)), upd pa (kx T d) (sI (Sv T d))) := by
  have h4 := hT.n4
  have ho := fo_open hf
  have hz := hT.z2 hf
  have hz5 := hT.z5 (fo T d)
  have hcu := cub_le hT
  have hk := kx_lt hT hd
  have hkv : ∀ v, v ≤ tz T (fo T d) → kx T (upf d (fo T d) v) < 1296 := fun v hv => Nat.lt_of_lt_of_le (kx_lt hT (PD_upf hd hv)) hcu
  unfold f_X1_gatherParts
  rw [show (0 : Int32) = nI 0 from rfl, p_part hT hX hs hf ho (Nat.zero_le _), bd_go, rd_nI (hkv 0 (by omega)) (by decide), (hp 0 (by omega)).2]
  refine wl_for (fun v => (nI (fb_sm (fun v => Wd T (upf d (fo T d) v)) v), sI (sfo (fun v => Sv T (upf d (fo T d) v)) (Sv T (upf d (fo T d) 0)) v), nI v)) (tz T (fo T d)) (fun v hv => ?_) ?_ (by omega)
  · show f_X1_gatherParts_s21 ps pw pa tsi (nI (kx T d)) (nI (fo T d)) (nI (fb_sm (fun v => Wd T (upf d (fo T d) v)) v)) (sI (sfo (fun v => Sv T (upf d (fo T d) v)) (Sv T (upf d (fo T d) 0)) v)) (nI v) = some (.inl (nI (fb_sm (fun v => Wd T (upf d (fo T d) v)) (v + 1)), sI (sfo (fun v => Sv T (upf d (fo T d) v)) (Sv T (upf d (fo T d) 0)) (v + 1)), nI (v + 1)))
    have hk1 := hkv v (by omega)
    unfold f_X1_gatherParts_s21
    rw [rd_nI (by omega) (by decide), hX.z (by omega), if_neg (nI_ge hv (by omega)), p_part hT hX hs hf ho (by omega), bd_go, rd_nI hk1 (by decide), nI_clamp (by omega), nm_go, (hp v hv).1, (hp v hv).2, nI_add, nI_1, fb_sm_succ, sfo]
    by_cases e : Sv T (upf d (fo T d) v) = sfo (fun v => Sv T (upf d (fo T d) v)) (Sv T (upf d (fo T d) 0)) v
    · rw [if_pos (by rw [← e]), if_pos e]
    · rw [if_neg (fun w => e ((sI_inj (Sv_le hT _) (sfo_le (Sv_le hT _) v)).mp w)), if_neg e]
      rfl
  · show f_X1_gatherParts_s21 ps pw pa tsi (nI (kx T d)) (nI (fo T d)) (nI (fb_sm (fun v => Wd T (upf d (fo T d) v)) (tz T (fo T d)))) (sI (sfo (fun v => Sv T (upf d (fo T d) v)) (Sv T (upf d (fo T d) 0)) (tz T (fo T d)))) (nI (tz T (fo T d))) = _
    unfold f_X1_gatherParts_s21
    rw [rd_nI (by omega) (by decide), hX.z (by omega), if_pos (Int32.le_refl _), ix_nI (by omega) (by decide), nI_clamp (by omega), Wd_sum ho hf, ← Sv_s hT hf]
theorem Wd_leaf {T : Tb} {d : Nat → Nat} (hn : ∀ c, c < tn T → d c < tz T c) : Wd T d = cwt T (hor T d (tn T)) := by
  unfold Wd cwt
  have key : ∀ m, m ≤ tn T → Wp T d m = prodw T (hor T d (tn T)) m := by
    intro m
    induction m with
    | zero => intro _; rfl
    | succ m ih =>
      intro h
      have hm := hn m (by omega)
      rw [Wp, prodw, ih (by omega), dig_hor hn (by omega)]
      unfold wc
      rw [if_neg (by omega)]
  exact key _ (Nat.le_refl _)
theorem leaf_lt (hT : TOk T) {d : Nat → Nat} (hd : PD T d) (hf : ¬ fo T d < tn T) : ∀ c, c < tn T → d c < tz T c := fun c hc => by
  have h4 := hT.n4
  have h1 := hd c (by omega)
  have h2 : ¬ d c = tz T c := fo_no (by omega)
  omega
theorem p_gather (hT : TOk T) (hX : XT T tc tca tru tdf tsi tst tco twe tse tac trw) (hs : SPX T ps) {d : Nat → Nat} (hd : PD T d) (hp : ∀ c v, c < tn T → d c = tz T c → v < tz T c → pw (kx T (upf d c v)) = nI (Wd T (upf d c v)) ∧ pa (kx T (upf d c v)) = sI (Sv T (upf d c v))) : f_X1_gather ps pw pa tc tru tdf tsi tst twe tac trw (nI (kx T d)) = some (upd pw (kx T d) (nI (Wd T d)), upd pa (kx T d) (sI (Sv T d))) := by
  have h4 := hT.n4
  have hcu := cub_le hT
  have hk := kx_lt hT hd
  unfold f_X1_gather
  have hle : fo T d ≤ tn T := fa_first_le _ _
  have step : ∀ c, c < fo T d → f_X1_gather_s5 ps tc tru tdf tsi tst twe tac trw (nI (kx T d)) (nI (fb_sm (fun c => d c * str T c) c)) (nI c) pw pa = some (.inl (nI (fb_sm (fun c => d c * str T c) (c + 1)), nI (c + 1), pw, pa)) := by
    intro c hc
    unfold f_X1_gather_s5
    rw [hX.n, if_neg (nI_ge (show c < tn T by omega) (by omega)), p_open hT hX hs hd (by omega), bd_go, show isO T d c = false from fa_first_no _ _ _ hc, if_neg (by decide), p_dig hT hX hs hd (by omega), bd_go, rd_nI (by omega) (by decide), hX.st (by omega), pk_mul, nI_add, nI_1, fb_sm_succ]
  refine wl_for (fun c => (nI (fb_sm (fun c => d c * str T c) c), nI c, pw, pa)) (fo T d) (fun c hc => step c hc) ?_ (by omega)
  show f_X1_gather_s5 ps tc tru tdf tsi tst twe tac trw (nI (kx T d)) (nI (fb_sm (fun c => d c * str T c) (fo T d))) (nI (fo T d)) pw pa = _
  by_cases hf : fo T d < tn T
  · have ho := fo_open hf
    unfold f_X1_gather_s5
    rw [hX.n, if_neg (nI_ge hf (by omega)), p_open hT hX hs hd hf, bd_go, show isO T d (fo T d) = true from decide_eq_true ho, if_pos rfl, p_parts hT hX hs hd hf (fun v hv => hp _ v hf ho hv), bd2_go]
  · have hlt := leaf_lt hT hd hf
    have hh := hor_cas hlt
    have hc := cas_le hT
    unfold f_X1_gather_s5
    rw [if_pos (by rw [hX.n, show fo T d = tn T by omega]; exact Int32.le_refl _), show fo T d = tn T by omega, hor_all, x_weight hT hX (by omega), bd_go, ix_nI (by omega) (by decide), x_action hT hX (by omega), bd_go, nI_clamp (by omega), Wd_leaf hlt, Sv_0 hf]
    have : sI (actc T (hor T d (tn T))) = dI (actc T (hor T d (tn T))) := if_neg (by have := actc_10 hT (hor T d (tn T)); omega)
    rw [this]
theorem p_rloop (hT : TOk T) (hX : XT T tc tca tru tdf tsi tst tco twe tse tac trw) (hs : SPX T ps) {d : Nat → Nat} (hd : PD T d) {c : Nat} (hc : c < tn T) (ho : d c = tz T c) (hp : ∀ v, v < tz T c → prk (kx T (upf d c v)) = lN (Rv T (upf d c v))) (B : Nat) : wl (fun q => f_X1_rankOfTest_s25 ps prk tsi (nI (kx T d)) (nI c) q.1 q.2) 5000 (lN B, (0 : Int32)) = some (lN (B + fb_sm (fun v => Rv T (upf d c v)) (tz T c))) := by
  have h4 := hT.n4
  have hcu := cub_le hT
  have hz5 := hT.z5 c
  have e0 : (lN B, (0 : Int32)) = (fun v => (lN (B + fb_sm (fun v => Rv T (upf d c v)) v), nI v)) 0 := by
    show _ = (lN (B + fb_sm (fun v => Rv T (upf d c v)) 0), nI 0)
    rw [show fb_sm (fun v => Rv T (upf d c v)) 0 = 0 from rfl, Nat.add_zero]
    rfl
  rw [e0]
  refine wl_for (fun v => (lN (B + fb_sm (fun v => Rv T (upf d c v)) v), nI v)) (tz T c) (fun v hv => ?_) ?_ (by omega)
  · show f_X1_rankOfTest_s25 ps prk tsi (nI (kx T d)) (nI c) (lN (B + fb_sm (fun v => Rv T (upf d c v)) v)) (nI v) = _
    have hk1 : kx T (upf d c v) < 1296 := Nat.lt_of_lt_of_le (kx_lt hT (PD_upf hd (by omega))) hcu
    unfold f_X1_rankOfTest_s25
    rw [nI_clamp (by omega), nm_go, hX.z (by omega), if_neg (nI_ge hv (by omega)), p_part hT hX hs hc ho (by omega), bd_go, rd_nI hk1 (by decide), hp v hv, lN_add, nI_1, fb_sm_succ, Nat.add_assoc B]
  · show f_X1_rankOfTest_s25 ps prk tsi (nI (kx T d)) (nI c) (lN (B + fb_sm (fun v => Rv T (upf d c v)) (tz T c))) (nI (tz T c)) = _
    unfold f_X1_rankOfTest_s25
    rw [nI_clamp (by omega), nm_go, hX.z (by omega), if_pos (Int32.le_refl _)]
theorem p_rank (hT : TOk T) (hX : XT T tc tca tru tdf tsi tst tco twe tse tac trw) (hs : SPX T ps) {d : Nat → Nat} (hd : PD T d) {c : Nat} (hc : c < tn T) (ho : d c = tz T c) (hw : pw (kx T d) = nI (Wd T d)) (hp : ∀ v, v < tz T c → prk (kx T (upf d c v)) = lN (Rv T (upf d c v))) : f_X1_rankOfTest ps pw prk tsi tco (nI (kx T d)) (nI c) = some (lN (rt T d c)) := by
  have h4 := hT.n4
  have hcu := cub_le hT
  have hk := kx_lt hT hd
  have hW := Wd_le hT d
  have hkc := hT.k c
  have hz5 := hT.z5 c
  unfold f_X1_rankOfTest
  have e1 : (lN (tk T c * Wd T d) <<< ((10 : Int32).toInt64 &&& 63)) = lN (tk T c * Wd T d * 1024) := wb_shl (k := 10) _ (by decide)
  rw [rd_nI (by omega) (by decide), rd_nI (by omega) (by decide), hw, hX.k (by omega), nI_l (by omega), nI_l (by omega), lN_mul, e1, lN_1, nm_go]
  unfold rt
  exact p_rloop hT hX hs hd hc ho hp _
theorem mn_lt63 {p : Nat → Bool} {f : Nat → Nat} : ∀ n, mn p f n < 2 ^ 63
  | 0 => by show BG < 2 ^ 63; decide
  | n + 1 => by
    have := mn_lt63 (p := p) (f := f) n
    rw [mn]
    by_cases e : p n = true
    · rw [if_pos e]
      by_cases e2 : f n < mn p f n
      · rw [if_pos e2]; omega
      · rw [if_neg e2]; exact this
    · rw [if_neg e]; exact this
theorem p_low (hT : TOk T) (hX : XT T tc tca tru tdf tsi tst tco twe tse tac trw) (hs : SPX T ps) {d : Nat → Nat} (hd : PD T d) (hw : pw (kx T d) = nI (Wd T d)) (hp : ∀ c v, c < tn T → d c = tz T c → v < tz T c → prk (kx T (upf d c v)) = lN (Rv T (upf d c v))) : f_X1_lowestRank ps pw prk tc tsi tco (nI (kx T d)) = some (lN (mn (isO T d) (rt T d) (tn T))) := by
  have h4 := hT.n4
  unfold f_X1_lowestRank
  rw [nm_go]
  refine wl_for (fun c => (lN (mn (isO T d) (rt T d) c), nI c)) (tn T) (fun c hc => ?_) ?_ (by omega)
  · show f_X1_lowestRank_s7 ps pw prk tc tsi tco (nI (kx T d)) (lN (mn (isO T d) (rt T d) c)) (nI c) = _
    unfold f_X1_lowestRank_s7
    rw [hX.n, if_neg (nI_ge hc (by omega)), p_open hT hX hs hd hc, bd_go, mn]
    cases ho : isO T d c with
    | false => rw [if_neg (by decide), if_neg (by decide), nI_1]
    | true =>
      have ho' : d c = tz T c := of_decide_eq_true ho
      have hrt := (rt_b hT hc ho').2.2.1
      rw [if_pos rfl, if_pos rfl, p_rank hT hX hs hd hc ho' hw (fun v hv => hp c v hc ho' hv), bd_go, nm_go, nI_1]
      by_cases e : rt T d c < mn (isO T d) (rt T d) c
      · rw [if_pos e, if_pos ((lN_ltb (by omega) (mn_lt63 _)).mpr e)]
      · rw [if_neg e, if_neg (fun w => e ((lN_ltb (by omega) (mn_lt63 _)).mp w))]
  · show f_X1_lowestRank_s7 ps pw prk tc tsi tco (nI (kx T d)) (lN (mn (isO T d) (rt T d) (tn T))) (nI (tn T)) = _
    unfold f_X1_lowestRank_s7
    rw [hX.n, if_pos (Int32.le_refl _)]
/-- all cubes before k are planned -/
def PX (T : Tb) (pw pa : Nat → Int32) (prk : Nat → Int64) (k : Nat) : Prop := ∀ d, PD T d → kx T d < k → PXd T pw pa prk d
theorem kx_down {d : Nat → Nat} {c v : Nat} (hc : c < tn T) (ho : d c = tz T c) (hv : v < tz T c) : kx T (upf d c v) < kx T d := by
  have e := kx_upf (T := T) (d := d) (v := v) hc
  have h1 : v * str (up1 T) c < d c * str (up1 T) c := Nat.mul_lt_mul_of_pos_right (by omega) (st1_pos T c)
  omega
theorem p_step (hT : TOk T) (hX : XT T tc tca tru tdf tsi tst tco twe tse tac trw) (hs : SPX T ps) {k : Nat} (hk : k < cas (up1 T)) (hP : PX T pw pa prk k) : ∃ pw' pa' prk', f_X1_plan_s51 tc tru tdf tsi tst tco twe tac trw (nI (cas (up1 T))) ps (nI k) pw pa prk = some (.inl (nI (k + 1), pw', pa', prk')) ∧ pw' k = nI (Wd T (dgs T k)) ∧ pa' k = sI (Sv T (dgs T k)) ∧ prk' k = lN (Rv T (dgs T k)) ∧ (∀ j, j < k → pw' j = pw j ∧ pa' j = pa j ∧ prk' j = prk j) := by
  have hcu := cub_le hT
  have hd := dgs_pd hT k
  have he := dgs_kx hk
  have hdn : ∀ c v, c < tn T → dgs T k c = tz T c → v < tz T c → PXd T pw pa prk (upf (dgs T k) c v) := fun c v hc ho hv => hP _ (PD_upf hd (by omega)) (by have := kx_down hc ho hv; omega)
  have hg := p_gather hT hX hs hd (fun c v hc ho hv => ⟨(hdn c v hc ho hv).1, (hdn c v hc ho hv).2.1⟩)
  rw [he] at hg
  have hlow := p_low (pw := upd pw k (nI (Wd T (dgs T k)))) hT hX hs hd (by rw [he]; exact if_pos rfl) (fun c v hc ho hv => (hdn c v hc ho hv).2.2)
  rw [he] at hlow
  unfold f_X1_plan_s51
  rw [if_neg (nI_ge hk (by omega)), hg, bd2_go, rd_nI (by omega) (by decide), nI_clamp (by omega), nI_1]
  have hu : upd pa k (sI (Sv T (dgs T k))) k = sI (Sv T (dgs T k)) := if_pos rfl
  rw [hu]
  have fr : ∀ (x y : Int32) (w : Int64) j, j < k → upd pw k x j = pw j ∧ upd pa k y j = pa j ∧ vp_updL prk k w j = prk j := fun x y w j hj => ⟨if_neg (by omega), if_neg (by omega), if_neg (by omega)⟩
  by_cases hS : Sv T (dgs T k) = 11
  · rw [if_pos ((sI_2 (Sv_le hT _)).mpr hS), hlow, bd_go]
    exact ⟨_, _, _, rfl, if_pos rfl, if_pos rfl, (if_pos rfl).trans (by rw [Rv_m hT hS]), fr _ _ _⟩
  · rw [if_neg (fun w => hS ((sI_2 (Sv_le hT _)).mp w))]
    exact ⟨_, _, _, rfl, if_pos rfl, if_pos rfl, (if_pos rfl).trans (by rw [Rv_l hS]; rfl), fr _ _ _⟩
end P
