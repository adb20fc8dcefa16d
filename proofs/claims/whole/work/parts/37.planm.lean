/-! the plan, as the reference makes it -/
def ed (T : Tb) (d : Nat → Nat) (c : Nat) : Nat := if c < tn T ∧ ¬ d c = tz T c then d c + 1 else 0
def km (T : Tb) (d : Nat → Nat) : Nat := ed T d 0 + 6 * ed T d 1 + 36 * ed T d 2 + 216 * ed T d 3
def un (c : Nat) : Nat := if c = 0 then 1 else if c = 1 then 6 else if c = 2 then 36 else 216
def mI (s : Nat) : Int32 := if s = 11 then -9 else dI s
theorem mI_inj {a b : Nat} (ha : a ≤ 11) (hb : b ≤ 11) : mI a = mI b ↔ a = b := by
  constructor
  · have key : ∀ a, a < 12 → ∀ b, b < 12 → mI a = mI b → a = b := by decide
    exact key a (by omega) b (by omega)
  · intro h; rw [h]
theorem mI_9 {a : Nat} (ha : a ≤ 11) : mI a = (-9 : Int32) ↔ a = 11 := mI_inj (b := 11) ha (Nat.le_refl _)
theorem ed_5 {T : Tb} (hT : TOk T) {d : Nat → Nat} (hd : PD T d) (c : Nat) : ed T d c ≤ 5 := by
  unfold ed
  by_cases h : c < tn T ∧ ¬ d c = tz T c
  · rw [if_pos h]
    have := hd c (by have := hT.n4; omega)
    have := hT.z5 c
    omega
  · rw [if_neg h]; omega
theorem km_lt {T : Tb} (hT : TOk T) {d : Nat → Nat} (hd : PD T d) : km T d < 1296 := by
  have h0 := ed_5 hT hd 0
  have h1 := ed_5 hT hd 1
  have h2 := ed_5 hT hd 2
  have h3 := ed_5 hT hd 3
  unfold km
  omega
theorem m_unit {c : Nat} (hc : c < 4) : f_X7_unit (nI c) = some (nI (un c)) := by
  rcases four hc with rfl | rfl | rfl | rfl <;> rfl
theorem un_pos (c : Nat) : 0 < un c ∧ un c ≤ 216 := by
  unfold un
  split
  · omega
  · split
    · omega
    · split <;> omega
theorem m_digit {p c : Nat} (hp : p < 1296) (hc : c < 4) : f_X7_digit (nI p) (nI c) = some (nI (p / un c % 6)) := by
  have hu := un_pos c
  have hq := Nat.div_le_self p (un c)
  unfold f_X7_digit
  rw [m_unit hc, bd_go, nz_go (nI_ne0 hu.1 (by omega)), nz_go (by decide), pk_div (by omega) hu.1 (by omega), show (6 : Int32) = nI 6 from rfl, mod_nI (by omega) (by decide) (by decide)]
theorem km_dig {T : Tb} (hT : TOk T) {d : Nat → Nat} (hd : PD T d) {c : Nat} (hc : c < 4) : km T d / un c % 6 = ed T d c := by
  have h0 := ed_5 hT hd 0
  have h1 := ed_5 hT hd 1
  have h2 := ed_5 hT hd 2
  have h3 := ed_5 hT hd 3
  unfold km
  rcases four hc with rfl | rfl | rfl | rfl
  · show _ / 1 % 6 = _; omega
  · show _ / 6 % 6 = _; omega
  · show _ / 36 % 6 = _; omega
  · show _ / 216 % 6 = _; omega
theorem m_dig {T : Tb} (hT : TOk T) {d : Nat → Nat} (hd : PD T d) {c : Nat} (hc : c < 4) : f_X7_digit (nI (km T d)) (nI c) = some (nI (ed T d c)) := by
  rw [m_digit (km_lt hT hd) hc, km_dig hT hd hc]
theorem ed_open {T : Tb} {d : Nat → Nat} {c : Nat} (h : d c = tz T c) : ed T d c = 0 := if_neg (fun w => w.2 h)
theorem ed_val {T : Tb} {d : Nat → Nat} {c : Nat} (hc : c < tn T) (h : ¬ d c = tz T c) : ed T d c = d c + 1 := if_pos ⟨hc, h⟩
theorem ed_upf {T : Tb} {d : Nat → Nat} {c v i : Nat} (h : ¬ i = c) : ed T (upf d c v) i = ed T d i := by
  unfold ed
  rw [upf_n d v h]
theorem km_upf {T : Tb} (hT : TOk T) {d : Nat → Nat} {c v : Nat} (hc : c < tn T) (ho : d c = tz T c) (hv : v < tz T c) : km T (upf d c v) = km T d + (v + 1) * un c := by
  have h4 := hT.n4
  have e1 : ed T (upf d c v) c = v + 1 := by rw [ed_val hc (by rw [upf_e]; omega), upf_e]
  have e2 := ed_open ho
  unfold km
  rcases four (show c < 4 by omega) with rfl | rfl | rfl | rfl
  · rw [ed_upf (i := 1) (by decide), ed_upf (i := 2) (by decide), ed_upf (i := 3) (by decide), e1, e2]
    show _ = _ + (v + 1) * 1
    omega
  · rw [ed_upf (i := 0) (by decide), ed_upf (i := 2) (by decide), ed_upf (i := 3) (by decide), e1, e2]
    show _ = _ + (v + 1) * 6
    omega
  · rw [ed_upf (i := 0) (by decide), ed_upf (i := 1) (by decide), ed_upf (i := 3) (by decide), e1, e2]
    show _ = _ + (v + 1) * 36
    omega
  · rw [ed_upf (i := 0) (by decide), ed_upf (i := 1) (by decide), ed_upf (i := 2) (by decide), e1, e2]
    show _ = _ + (v + 1) * 216
    omega
theorem km_cong {T : Tb} {d d' : Nat → Nat} (h : agr T d d') : km T d = km T d' := by
  have e : ∀ c, ed T d c = ed T d' c := fun c => by
    unfold ed
    by_cases hc : c < tn T
    · rw [h c hc]
    · rw [if_neg (fun w => hc w.1), if_neg (fun w => hc w.1)]
  unfold km
  rw [e, e, e, e]
def dgm (T : Tb) (p : Nat) : Nat → Nat := fun c => if c < tn T then (if p / un c % 6 = 0 then tz T c else p / un c % 6 - 1) else 0
/-- which codes are parts -/
def isP (T : Tb) (p : Nat) : Bool := if fa_first (fun c => decide (tz T c < p / un c % 6)) 4 < 4 then false else true
theorem isP_t {T : Tb} {p : Nat} (h : isP T p = true) : ∀ c, c < 4 → p / un c % 6 ≤ tz T c := fun c hc => by
  unfold isP at h
  by_cases e : fa_first (fun c => decide (tz T c < p / un c % 6)) 4 < 4
  · rw [if_pos e] at h; exact absurd h (by decide)
  · have a := of_decide_eq_false (fa_first_no (fun c => decide (tz T c < p / un c % 6)) 4 c (by omega))
    omega
theorem isP_of {T : Tb} {p : Nat} (h : ∀ c, c < 4 → p / un c % 6 ≤ tz T c) : isP T p = true := by
  unfold isP
  rw [if_neg (fun e => ?_)]
  have a := of_decide_eq_true (fa_first_yes (fun c => decide (tz T c < p / un c % 6)) 4 e)
  have b := h _ e
  omega
theorem dgm_pd {T : Tb} {p : Nat} (h : isP T p = true) : PD T (dgm T p) := fun c hc => by
  have h1 := isP_t h c hc
  unfold dgm
  by_cases e : c < tn T
  · rw [if_pos e]
    by_cases e2 : p / un c % 6 = 0
    · rw [if_pos e2]; exact Nat.le_refl _
    · rw [if_neg e2]; omega
  · rw [if_neg e]; exact Nat.zero_le _
theorem dgm_ed {T : Tb} (hT : TOk T) {p : Nat} (h : isP T p = true) {c : Nat} (hc : c < 4) : ed T (dgm T p) c = p / un c % 6 := by
  have h1 := isP_t h c hc
  unfold ed dgm
  by_cases e : c < tn T
  · rw [if_pos e]
    by_cases e2 : p / un c % 6 = 0
    · rw [if_pos e2, if_neg (fun w => w.2 rfl), e2]
    · rw [if_neg e2, if_pos ⟨e, by omega⟩]; omega
  · rw [if_neg (fun w => e w.1)]
    rw [hT.2.2.1 c (by omega)] at h1
    omega
theorem dgm_km {T : Tb} (hT : TOk T) {p : Nat} (hp : p < 1296) (h : isP T p = true) : km T (dgm T p) = p := by
  unfold km
  rw [dgm_ed hT h (by decide), dgm_ed hT h (by decide), dgm_ed hT h (by decide), dgm_ed hT h (by decide)]
  show p / 1 % 6 + 6 * (p / 6 % 6) + 36 * (p / 36 % 6) + 216 * (p / 216 % 6) = p
  omega
theorem km_isP {T : Tb} (hT : TOk T) {d : Nat → Nat} (hd : PD T d) : isP T (km T d) = true := isP_of (fun c hc => by
  rw [km_dig hT hd hc]
  unfold ed
  by_cases h : c < tn T ∧ ¬ d c = tz T c
  · rw [if_pos h]; have := hd c hc; omega
  · rw [if_neg h]; omega)
theorem dgm_agr {T : Tb} (hT : TOk T) {d : Nat → Nat} (hd : PD T d) : agr T (dgm T (km T d)) d := fun c hc => by
  have h4 := hT.n4
  unfold dgm
  rw [if_pos hc, km_dig hT hd (by omega)]
  by_cases e : d c = tz T c
  · rw [ed_open e, if_pos rfl, e]
  · rw [ed_val hc e, if_neg (by omega), Nat.add_sub_cancel]
section M
variable {T : Tb} {mc mru mst : Int32} {msi mwe mco mse mac : Nat → Int32} {ms mn' mte : Nat → Int32} {mb : Nat → Int64}
theorem q_isPart (hT : TOk T) (hM : MT T mc mru mst msi mwe mco mse mac) {p : Nat} (hp : p < 1296) : f_X7_isPart mc msi (nI p) = some (isP T p) := by
  have h4 := hT.n4
  unfold f_X7_isPart
  refine Eq.trans (wl_find (fun c => decide (tz T c < p / un c % 6)) 4 (by omega) (fun _ => false) true (fun c hc hq => ?_) (fun c hc hq => ?_) ?_) ?_
  · have h1 : ¬ tz T c < p / un c % 6 := of_decide_eq_false hq
    have h2 := Nat.mod_lt (p / un c) (show 0 < 6 by decide)
    have h5 := hT.z5 c
    unfold f_X7_isPart_s2
    rw [if_neg (show ¬ (4 : Int32) ≤ nI c from nI_ge (b := 4) hc (by omega)), m_digit hp hc, bd_go, hM.n, nI_1]
    by_cases e : c < tn T
    · rw [if_neg (nI_ge e (by omega)), rd_nI (by omega) (by decide), hM.z (by omega), if_pos (nI_le (by omega) (by omega))]
    · rw [if_pos (nI_le (by omega) (by omega))]
      rw [hT.2.2.1 c (by omega)] at h1
      rw [if_pos (show nI (p / un c % 6) ≤ (0 : Int32) from nI_le (b := 0) (by omega) (by omega))]
  · have h1 : tz T c < p / un c % 6 := of_decide_eq_true hq
    have h2 := Nat.mod_lt (p / un c) (show 0 < 6 by decide)
    have h5 := hT.z5 c
    unfold f_X7_isPart_s2
    rw [if_neg (show ¬ (4 : Int32) ≤ nI c from nI_ge (b := 4) hc (by omega)), m_digit hp hc, bd_go, hM.n]
    by_cases e : c < tn T
    · rw [if_neg (nI_ge e (by omega)), rd_nI (by omega) (by decide), hM.z (by omega), if_neg (nI_ge (by omega) (by omega))]
    · rw [if_pos (nI_le (by omega) (by omega))]
      rw [if_neg (show ¬ nI (p / un c % 6) ≤ (0 : Int32) from nI_ge (a := 0) (by omega) (by omega))]
  · unfold f_X7_isPart_s2
    rw [if_pos (show (4 : Int32) ≤ nI 4 by decide)]
  · rfl
theorem q_case (hT : TOk T) (hM : MT T mc mru mst msi mwe mco mse mac) {d : Nat → Nat} (hd : PD T d) (hf : ¬ fo T d < tn T) : f_X7_caseOf mc msi (nI (km T d)) = some (nI (hor T d (tn T))) := by
  have h4 := hT.n4
  have hlt := leaf_lt hT hd hf
  unfold f_X7_caseOf
  refine wl_for (fun c => (nI (hor T d c), nI c)) (tn T) (fun c hc => ?_) ?_ (by omega)
  · show f_X7_caseOf_s4 mc msi (nI (km T d)) (nI (hor T d c)) (nI c) = _
    unfold f_X7_caseOf_s4
    have := hlt c hc
    rw [hM.n, if_neg (nI_ge hc (by omega)), rd_nI (by omega) (by decide), hM.z (by omega), m_dig hT hd (by omega), bd_go, ed_val hc (by omega), pk_mul, nI_add, show (1 : Int32) = nI 1 from rfl, pk_sub (by omega), nm_go, nI_add, hor, show hor T d c * tz T c + (d c + 1) - 1 = hor T d c * tz T c + d c by omega]
  · show f_X7_caseOf_s4 mc msi (nI (km T d)) (nI (hor T d (tn T))) (nI (tn T)) = _
    unfold f_X7_caseOf_s4
    rw [hM.n, if_pos (Int32.le_refl _)]
theorem q_part (hT : TOk T) {d : Nat → Nat} {c v : Nat} (hc : c < tn T) (ho : d c = tz T c) (hv : v < tz T c) : nI (km T d) + nI (v + 1) * nI (un c) = nI (km T (upf d c v)) := by
  rw [pk_mul, nI_add, km_upf hT hc ho hv]
theorem q_same (hT : TOk T) (hM : MT T mc mru mst msi mwe mco mse mac) {d : Nat → Nat} (hd : PD T d) (hp : ∀ c v, c < tn T → d c = tz T c → v < tz T c → ms (km T (upf d c v)) = mI (Sv T (upf d c v))) : f_X7_sameOf mc msi mru mse mac mst ms (nI (km T d)) = some (mI (Sv T d)) := by
  have h4 := hT.n4
  have hle : fo T d ≤ tn T := fa_first_le _ _
  unfold f_X7_sameOf
  refine wl_for (fun c => nI c) (fo T d) (fun c hc => ?_) ?_ (by omega)
  · have hn : ¬ d c = tz T c := fo_no hc
    have := hd c (by omega)
    have := hT.z5 c
    unfold f_X7_sameOf_s2
    rw [hM.n, if_neg (nI_ge (show c < tn T by omega) (by omega)), m_dig hT hd (by omega), bd_go, ed_val (by omega) hn, if_neg (fun w => by have := (nI_0i (by omega)).mp w; omega), nI_1]
  · by_cases hf : fo T d < tn T
    · have ho := fo_open hf
      have hz := hT.z2 hf
      have hz5 := hT.z5 (fo T d)
      have hk1 : ∀ v, v < tz T (fo T d) → km T (upf d (fo T d) v) < 1296 := fun v hv => km_lt hT (PD_upf hd (by omega))
      unfold f_X7_sameOf_s2
      have e1 : nI (km T d) + nI (un (fo T d)) = nI (km T (upf d (fo T d) 0)) := by rw [nI_add, km_upf hT hf ho (by omega), Nat.zero_add, Nat.one_mul]
      rw [hM.n, if_neg (nI_ge hf (by omega)), m_dig hT hd (by omega), bd_go, ed_open ho, if_pos (show nI 0 = (0 : Int32) from rfl), m_unit (by omega), bd_go, e1, rd_nI (hk1 0 (by omega)) (by decide), hp _ 0 hf ho (by omega)]
      have e0 : (mI (Sv T (upf d (fo T d) 0)), (2 : Int32)) = (fun v => (mI (sfo (fun v => Sv T (upf d (fo T d) v)) (Sv T (upf d (fo T d) 0)) (v + 1)), nI (v + 2))) 0 := by
        show _ = (mI (sfo (fun v => Sv T (upf d (fo T d) v)) (Sv T (upf d (fo T d) 0)) 1), nI 2)
        have : sfo (fun v => Sv T (upf d (fo T d) v)) (Sv T (upf d (fo T d) 0)) 1 = Sv T (upf d (fo T d) 0) := if_pos rfl
        rw [this]
        rfl
      rw [e0]
      refine wl_for (fun v => (mI (sfo (fun v => Sv T (upf d (fo T d) v)) (Sv T (upf d (fo T d) 0)) (v + 1)), nI (v + 2))) (tz T (fo T d) - 1) (fun v hv => ?_) ?_ (by omega)
      · show f_X7_sameOf_s33 msi ms (nI (km T d)) (nI (fo T d)) (mI (sfo (fun v => Sv T (upf d (fo T d) v)) (Sv T (upf d (fo T d) 0)) (v + 1))) (nI (v + 1 + 1)) = some (.inl (mI (sfo (fun v => Sv T (upf d (fo T d) v)) (Sv T (upf d (fo T d) 0)) (v + 1 + 1)), nI (v + 1 + 2)))
        unfold f_X7_sameOf_s33
        rw [rd_nI (by omega) (by decide), hM.z (by omega), if_neg (nI_nlt (by omega) (by omega)), m_unit (by omega), bd_go, q_part hT hf ho (by omega), rd_nI (hk1 _ (by omega)) (by decide), hp _ _ hf ho (by omega), nI_1]
        by_cases e : Sv T (upf d (fo T d) (v + 1)) = sfo (fun v => Sv T (upf d (fo T d) v)) (Sv T (upf d (fo T d) 0)) (v + 1)
        · have e3 : sfo (fun v => Sv T (upf d (fo T d) v)) (Sv T (upf d (fo T d) 0)) (v + 1 + 1) = sfo (fun v => Sv T (upf d (fo T d) v)) (Sv T (upf d (fo T d) 0)) (v + 1) := if_pos e
          rw [e3, if_pos (by rw [← e])]
        · have e3 : sfo (fun v => Sv T (upf d (fo T d) v)) (Sv T (upf d (fo T d) 0)) (v + 1 + 1) = 11 := if_neg e
          rw [e3, if_neg (fun w => e ((mI_inj (Sv_le hT _) (sfo_le (Sv_le hT _) _)).mp w))]
          rfl
      · obtain ⟨m, hm⟩ : ∃ m, tz T (fo T d) = m + 1 := ⟨tz T (fo T d) - 1, by omega⟩
        show f_X7_sameOf_s33 msi ms (nI (km T d)) (nI (fo T d)) (mI (sfo (fun v => Sv T (upf d (fo T d) v)) (Sv T (upf d (fo T d) 0)) (tz T (fo T d) - 1 + 1))) (nI (tz T (fo T d) - 1 + 2)) = _
        unfold f_X7_sameOf_s33
        rw [rd_nI (by omega) (by decide), hM.z (by omega), if_pos (nI_lt (by omega) (by omega)), Sv_s hT hf, Nat.sub_add_cancel (by omega)]
    · have hlt := leaf_lt hT hd hf
      have hh := hor_cas hlt
      have hc := cas_le hT
      unfold f_X7_sameOf_s2
      rw [if_pos (by rw [hM.n, show fo T d = tn T by omega]; exact Int32.le_refl _), q_case hT hM hd hf, bd_go, m_action hT hM (by omega), bd_go, Sv_0 hf]
      have : mI (actc T (hor T d (tn T))) = dI (actc T (hor T d (tn T))) := if_neg (by have := actc_10 hT (hor T d (tn T)); omega)
      rw [this]
theorem q_weight (hT : TOk T) (hM : MT T mc mru mst msi mwe mco mse mac) {d : Nat → Nat} (hd : PD T d) : f_X7_weightOf mc msi mwe (nI (km T d)) = some (lN (Wd T d)) := by
  have h4 := hT.n4
  unfold f_X7_weightOf
  refine wl_for (fun c => (lN (Wp T d c), nI c)) (tn T) (fun c hc => ?_) ?_ (by omega)
  · show f_X7_weightOf_s5 mc msi mwe (nI (km T d)) (lN (Wp T d c)) (nI c) = _
    have hz5 := hT.z5 c
    have hw := wc_le hT d c
    unfold f_X7_weightOf_s5
    rw [hM.n, if_neg (nI_ge hc (by omega)), m_dig hT hd (by omega), bd_go, nI_1, Wp]
    by_cases e : d c = tz T c
    · have e1 : wc T d c = wsm T c := if_pos e
      rw [ed_open e, if_pos (show nI 0 = (0 : Int32) from rfl), m_weightSum hT hM hc, bd_go, e1, nI_l (by omega), lN_mul]
    · have e1 : wc T d c = tw T (c * 5 + d c) := if_neg e
      have := hd c (by omega)
      rw [ed_val hc e, if_neg (fun w => by have := (nI_0i (by omega)).mp w; omega), show (5 : Int32) = nI 5 from rfl, pk_mul, nI_add, show (1 : Int32) = nI 1 from rfl, pk_sub (by omega), show 5 * c + (d c + 1) - 1 = c * 5 + d c by omega, rd_nI (by omega) (by decide), hM.w (by omega), e1, nI_l (by have := hT.w9 (c * 5 + d c); omega), lN_mul]
  · show f_X7_weightOf_s5 mc msi mwe (nI (km T d)) (lN (Wp T d (tn T))) (nI (tn T)) = _
    unfold f_X7_weightOf_s5
    rw [hM.n, if_pos (Int32.le_refl _)]
    rfl
theorem q_cost (hT : TOk T) (hM : MT T mc mru mst msi mwe mco mse mac) {d : Nat → Nat} (hd : PD T d) {c : Nat} (hc : c < tn T) (ho : d c = tz T c) (hp : ∀ v, v < tz T c → mb (km T (upf d c v)) = lN (Rv T (upf d c v) / 1024)) : f_X7_costBy mc msi mwe mco mb (nI (km T d)) (nI c) = some (lN (rt T d c / 1024)) := by
  have h4 := hT.n4
  have hz5 := hT.z5 c
  have hkc := hT.k c
  unfold f_X7_costBy
  rw [rd_nI (by omega) (by decide), hM.k (by omega), q_weight hT hM hd, bd_go, nI_l (by omega), lN_mul, (rt_b hT hc ho).1]
  refine wl_for (fun v => (lN (tk T c * Wd T d + fb_sm (fun v => Rv T (upf d c v) / 1024) v), nI (v + 1))) (tz T c) (fun v hv => ?_) ?_ (by omega)
  · show f_X7_costBy_s17 msi mb (nI (km T d)) (nI c) (lN (tk T c * Wd T d + fb_sm (fun v => Rv T (upf d c v) / 1024) v)) (nI (v + 1)) = _
    unfold f_X7_costBy_s17
    rw [nI_clamp (by omega), nm_go, hM.z (by omega), if_neg (nI_nlt (by omega) (by omega)), m_unit (by omega), bd_go, q_part hT hc ho hv, rd_nI (km_lt hT (PD_upf hd (by omega))) (by decide), hp v hv, lN_add, nI_1, fb_sm_succ, Nat.add_assoc (tk T c * Wd T d)]
  · show f_X7_costBy_s17 msi mb (nI (km T d)) (nI c) (lN (tk T c * Wd T d + fb_sm (fun v => Rv T (upf d c v) / 1024) (tz T c))) (nI (tz T c + 1)) = _
    unfold f_X7_costBy_s17
    rw [nI_clamp (by omega), nm_go, hM.z (by omega), if_pos (nI_lt (by omega) (by omega))]
theorem q_nodes (hT : TOk T) (hM : MT T mc mru mst msi mwe mco mse mac) {d : Nat → Nat} (hd : PD T d) {c : Nat} (hc : c < tn T) (ho : d c = tz T c) (hp : ∀ v, v < tz T c → mn' (km T (upf d c v)) = nI (Rv T (upf d c v) % 1024)) : f_X7_nodesBy msi mn' (nI (km T d)) (nI c) = some (nI (rt T d c % 1024)) := by
  have h4 := hT.n4
  have hz5 := hT.z5 c
  unfold f_X7_nodesBy
  rw [(rt_b hT hc ho).2.1]
  refine wl_for (fun v => (nI (1 + fb_sm (fun v => Rv T (upf d c v) % 1024) v), nI (v + 1))) (tz T c) (fun v hv => ?_) ?_ (by omega)
  · show f_X7_nodesBy_s5 msi mn' (nI (km T d)) (nI c) (nI (1 + fb_sm (fun v => Rv T (upf d c v) % 1024) v)) (nI (v + 1)) = _
    unfold f_X7_nodesBy_s5
    rw [rd_nI (by omega) (by decide), hM.z (by omega), if_neg (nI_nlt (by omega) (by omega)), m_unit (by omega), bd_go, q_part hT hc ho hv, rd_nI (km_lt hT (PD_upf hd (by omega))) (by decide), hp v hv, nI_add, nI_1, fb_sm_succ, Nat.add_assoc 1]
  · show f_X7_nodesBy_s5 msi mn' (nI (km T d)) (nI c) (nI (1 + fb_sm (fun v => Rv T (upf d c v) % 1024) (tz T c))) (nI (tz T c + 1)) = _
    unfold f_X7_nodesBy_s5
    rw [rd_nI (by omega) (by decide), hM.z (by omega), if_pos (nI_lt (by omega) (by omega))]
end M
