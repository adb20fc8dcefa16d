/-! gap(index), conflicts, shadowed rules -/
theorem fb_sub0 (x y : Int32) : x - y = (0 : Int32) ↔ x = y := by
  constructor
  · intro h
    have h1 : x - y + y = 0 + y := by rw [h]
    rw [Int32.sub_add_cancel, Int32.zero_add] at h1
    exact h1
  · intro h
    rw [h, Int32.sub_self]
/-- the gap number x, or -6 -/
def gpR (T : Tb) (x : Int32) : Int32 := let p := fun k => gpp T k && decide (nI (fb_ct (gpp T) k) = x); if fa_first p (cas T) < cas T then nI (fa_first p (cas T)) else -6
section B
variable {T : Tb} {tc tca tru tdf : Int32} {tsi tst tco twe tse tac trw : Nat → Int32} {mc mru mst : Int32} {msi mwe mco mse mac : Nat → Int32}
theorem wl_findS {σ α : Type} {f : σ → Option (σ ⊕ α)} (s : Nat → σ) (p : Nat → Bool) (n : Nat) (hn : n < 5000) (R : Nat → α) (E : α) (hs : ∀ i, i < n → (∀ j, j < i + 1 → p j = false) → f (s i) = some (.inl (s (i + 1)))) (hf : ∀ i, i < n → (∀ j, j < i → p j = false) → p i = true → f (s i) = some (.inr (R i))) (he : (∀ j, j < n → p j = false) → f (s n) = some (.inr E)) : wl f 5000 (s 0) = some (if fa_first p n < n then R (fa_first p n) else E) := by
  have hle := fa_first_le p n
  refine wl_for s (fa_first p n) (fun i hi => hs i (by omega) (fun j hj => fa_first_no p n j (by omega))) ?_ (by omega)
  by_cases q : fa_first p n < n
  · rw [if_pos q]
    exact hf _ q (fun j hj => fa_first_no p n j hj) (fa_first_yes p n q)
  · rw [if_neg q]
    obtain e : fa_first p n = n := by omega
    rw [e]
    exact he (fun j hj => fa_first_no p n j (by omega))
theorem x_gap (hT : TOk T) (hX : XT T tc tca tru tdf tsi tst tco twe tse tac trw) (x : Int32) : f_X6_gap tc tca tru tsi tst trw x = some (gpR T x) := by
  have hc := cas_le hT
  unfold f_X6_gap gpR
  refine wl_findS (fun k => (nI (fb_ct (gpp T) k), nI k)) (fun k => gpp T k && decide (nI (fb_ct (gpp T) k) = x)) (cas T) (by omega) (fun k => nI k) (-6) (fun k hk hp => ?_) (fun k hk _ hp => ?_) (fun _ => ?_)
  · show f_X6_gap_s4 tc tca tru tsi tst trw x (nI (fb_ct (gpp T) k)) (nI k) = _
    have hp := hp k (by omega)
    unfold f_X6_gap_s4
    rw [hX.ca, if_neg (nI_ge hk (by omega)), x_rulesFor hT hX (by omega), bd_go, fb_ct_succ]
    by_cases q : gpp T k = true
    · rw [if_pos ((x_gz hT k).mpr q), if_neg (fun w => by simp [q, w] at hp), q, if_pos rfl, nI_1, nI_1]
    · rw [if_neg (fun w => q ((x_gz hT k).mp w)), if_neg q, nI_1]; rfl
  · show f_X6_gap_s4 tc tca tru tsi tst trw x (nI (fb_ct (gpp T) k)) (nI k) = _
    have hp2 : gpp T k = true ∧ nI (fb_ct (gpp T) k) = x := by simpa using hp
    unfold f_X6_gap_s4
    rw [hX.ca, if_neg (nI_ge hk (by omega)), x_rulesFor hT hX (by omega), bd_go, if_pos ((x_gz hT k).mpr hp2.1), if_pos hp2.2]
  · show f_X6_gap_s4 tc tca tru tsi tst trw x (nI (fb_ct (gpp T) (cas T))) (nI (cas T)) = _
    unfold f_X6_gap_s4
    rw [hX.ca, if_pos (Int32.le_refl _)]
theorem ct_bound (p : Nat → Bool) (j : Nat) : ∀ i, (∀ k, k < i → ¬ (p k = true ∧ fb_ct p k = j)) → fb_ct p i ≤ j
  | 0, _ => Nat.zero_le _
  | i + 1, h => by
    have h1 := ct_bound p j i (fun k hk => h k (by omega))
    rw [fb_ct_succ]
    by_cases q : p i = true
    · have h2 : ¬ fb_ct p i = j := fun w => h i (by omega) ⟨q, w⟩
      rw [if_pos q]; omega
    · rw [if_neg q]; exact h1
theorem m_gap (hT : TOk T) (hM : MT T mc mru mst msi mwe mco mse mac) (x : Int32) : f_X7_gap mc msi mru mse x = some (gpR T x) := by
  have hc := cas_le hT
  have hc0 := cas_pos hT
  unfold f_X7_gap gpR
  rw [m_cases hT hM, bd_go]
  by_cases hx : x < 0
  · have e : ∀ k, k ≤ cas T → (gpp T k && decide (nI (fb_ct (gpp T) k) = x)) = false := by
      intro k hk
      have h1 := fb_ct_le (gpp T) k
      have h2 : ¬ nI (fb_ct (gpp T) k) = x := fun w => by rw [← w] at hx; exact nI_pos (by omega) hx
      simp [h2]
    have e2 : ¬ fa_first (fun k => gpp T k && decide (nI (fb_ct (gpp T) k) = x)) (cas T) < cas T := fun q => by
      have h1 := fa_first_yes _ _ q
      rw [e _ (by omega)] at h1
      exact absurd h1 (by decide)
    rw [if_neg e2, wl_r]
    show f_X7_gap_s10 mc msi mru mse (nI (cas T)) x (0 : Int32) = _
    unfold f_X7_gap_s10
    rw [if_neg (show ¬ nI (cas T) ≤ (0 : Int32) from nI_ge hc0 (by omega)), if_pos hx]
  · obtain ⟨j, hj, rfl⟩ := nI_of hx
    rw [show (nI j, (0 : Int32)) = (fun k => (nI j - nI (fb_ct (gpp T) k), nI k)) 0 by show (nI j, (0 : Int32)) = (nI j - (0 : Int32), (0 : Int32)); rw [Int32.sub_zero]]
    have hct : ∀ k, k ≤ cas T → fb_ct (gpp T) k < 2 ^ 31 := fun k hk => by have := fb_ct_le (gpp T) k; omega
    have bnd : ∀ k, k ≤ cas T → (∀ i, i < k → (gpp T i && decide (nI (fb_ct (gpp T) i) = nI j)) = false) → fb_ct (gpp T) k ≤ j := fun k hk h => ct_bound (gpp T) j k (fun i hi q => by
      have h1 := h i hi
      rw [q.1, q.2] at h1
      simp at h1)
    refine wl_findS (fun k => (nI j - nI (fb_ct (gpp T) k), nI k)) (fun k => gpp T k && decide (nI (fb_ct (gpp T) k) = nI j)) (cas T) (by omega) (fun k => nI k) (-6) (fun k hk hp => ?_) (fun k hk hb hp => ?_) (fun hb => ?_)
    · show f_X7_gap_s10 mc msi mru mse (nI (cas T)) (nI j - nI (fb_ct (gpp T) k)) (nI k) = some (.inl (nI j - nI (fb_ct (gpp T) (k + 1)), nI (k + 1)))
      have hb := bnd k (by omega) (fun i hi => hp i (by omega))
      have hp := hp k (by omega)
      unfold f_X7_gap_s10
      rw [if_neg (nI_ge hk (by omega)), if_neg (by rw [pk_sub hb]; exact nI_pos (by omega)), m_first hT hM (by omega), bd_go, fb_ct_succ]
      by_cases q : gpp T k = true
      · have hne : ¬ fb_ct (gpp T) k = j := fun w => by rw [q, w] at hp; simp at hp
        rw [if_pos ((m_gz hT k).mpr q), if_neg (fun w => by rw [fb_sub0, nI_eq hj (hct k (by omega))] at w; exact hne w.symm), q, if_pos rfl, nI_1, pk_sub hb, pk_sub (by omega)]
        obtain ⟨d, hd⟩ : ∃ d, j - fb_ct (gpp T) k = d + 1 := ⟨j - fb_ct (gpp T) k - 1, by omega⟩
        rw [hd, pk_m1, show j - (fb_ct (gpp T) k + 1) = d by omega]
      · rw [if_neg (fun w => q ((m_gz hT k).mp w)), if_neg q, nI_1]; rfl
    · show f_X7_gap_s10 mc msi mru mse (nI (cas T)) (nI j - nI (fb_ct (gpp T) k)) (nI k) = _
      have hbd := bnd k (by omega) hb
      have hp2 : gpp T k = true ∧ nI (fb_ct (gpp T) k) = nI j := by simpa using hp
      unfold f_X7_gap_s10
      rw [if_neg (nI_ge hk (by omega)), if_neg (by rw [pk_sub hbd]; exact nI_pos (by omega)), m_first hT hM (by omega), bd_go, if_pos ((m_gz hT k).mpr hp2.1), if_pos ((fb_sub0 _ _).mpr hp2.2.symm)]
    · show f_X7_gap_s10 mc msi mru mse (nI (cas T)) (nI j - nI (fb_ct (gpp T) (cas T))) (nI (cas T)) = _
      unfold f_X7_gap_s10
      rw [if_pos (Int32.le_refl _)]
theorem eq_gap (hT : TOk T) (hX : XT T tc tca tru tdf tsi tst tco twe tse tac trw) (hM : MT T mc mru mst msi mwe mco mse mac) (a : Int32) : ∃ r, f_X6_gap tc tca tru tsi tst trw a = some r ∧ f_X7_gap mc msi mru mse a = some r := ⟨_, x_gap hT hX a, m_gap hT hM a⟩
/-! the lowest bit of a set -/
def lob (s : Nat) : Nat := fa_first (fun v => s.testBit v) 5
theorem lob_x : ∀ s, s < 32 → 0 < s → f_X4_lowestValue (nI s) = some (nI (lob s)) := by
  intro s hs h0
  unfold f_X4_lowestValue
  refine Eq.trans (wl_find (fun v => s.testBit v) 5 (by decide) (fun v => nI v) (nI 0) (fun v hv hp => ?_) (fun v hv hp => ?_) ?_) ?_
  · show f_X4_lowestValue_s2 (nI s) (nI v) = _
    unfold f_X4_lowestValue_s2
    rw [show (5 : Int32) = nI 5 from rfl, if_neg (nI_ge hv (by decide)), if_pos ((sh_bit (by omega)).mpr hp), nI_1]
  · show f_X4_lowestValue_s2 (nI s) (nI v) = _
    unfold f_X4_lowestValue_s2
    rw [show (5 : Int32) = nI 5 from rfl, if_neg (nI_ge hv (by decide)), if_neg (fun w => by rw [sh_bit (by omega), hp] at w; exact absurd w (by decide))]
  · show f_X4_lowestValue_s2 (nI s) (nI 5) = _
    unfold f_X4_lowestValue_s2
    rw [show (5 : Int32) = nI 5 from rfl, if_pos (Int32.le_refl _)]
    rfl
  · have h5 : ∀ s, s < 32 → 0 < s → fa_first (fun v => s.testBit v) 5 < 5 := by decide
    rw [if_pos (h5 s hs h0)]
    rfl
theorem lob_m : ∀ s, s < 32 → 0 < s → f_J6_numberOfTrailingZeros_0f7a4 (nI s) = some (nI (lob s)) := by decide +kernel
theorem lob_lt : ∀ s, s < 32 → 0 < s → ∀ z, z ≤ 5 → s < 2 ^ z → lob s < z := by decide
/-! numbers of cases out of values -/
def hor (T : Tb) (v : Nat → Nat) : Nat → Nat
  | 0 => 0
  | c + 1 => hor T v c * tz T c + v c
theorem hor_sum (T : Tb) (v : Nat → Nat) : ∀ m, m ≤ tn T → fb_sm (fun c => v c * str T c) m = hor T v m * pr (tz T) m (tn T - m)
  | 0, _ => by simp [hor, fb_sm]
  | m + 1, h => by
    rw [fb_sm_succ, hor_sum T v m (by omega), hor, Nat.add_mul, Nat.mul_assoc]
    have e : pr (tz T) m (tn T - m) = tz T m * pr (tz T) (m + 1) (tn T - (m + 1)) := by
      rw [show tn T - m = tn T - (m + 1) + 1 by omega, pr]
    have e2 : str T m = pr (tz T) (m + 1) (tn T - (m + 1)) := by
      unfold str
      rw [show tn T - 1 - m = tn T - (m + 1) by omega]
    rw [e, e2]
theorem hor_all (T : Tb) (v : Nat → Nat) : fb_sm (fun c => v c * str T c) (tn T) = hor T v (tn T) := by
  rw [hor_sum T v _ (Nat.le_refl _), Nat.sub_self, pr, Nat.mul_one]
theorem hor_lt {T : Tb} {v : Nat → Nat} : ∀ m, (∀ c, c < m → v c < tz T c) → hor T v m < pr (tz T) 0 m
  | 0, _ => Nat.one_pos
  | m + 1, h => by
    have h1 := hor_lt m (fun c hc => h c (by omega))
    have h2 := h m (by omega)
    rw [hor, pr_last, Nat.zero_add]
    have h3 : (hor T v m + 1) * tz T m ≤ pr (tz T) 0 m * tz T m := Nat.mul_le_mul_right _ h1
    rw [Nat.add_mul, Nat.one_mul] at h3
    omega
theorem hor_tail {T : Tb} {v : Nat → Nat} : ∀ (j c : Nat), (∀ i, i < c + 1 + j → v i < tz T i) → ∃ q, q < pr (tz T) (c + 1) j ∧ hor T v (c + 1 + j) = hor T v (c + 1) * pr (tz T) (c + 1) j + q
  | 0, c, _ => ⟨0, Nat.one_pos, by simp [pr]⟩
  | j + 1, c, h => by
    obtain ⟨q, hq, e⟩ := hor_tail j c (fun i hi => h i (by omega))
    have hv := h (c + 1 + j) (by omega)
    refine ⟨q * tz T (c + 1 + j) + v (c + 1 + j), ?_, ?_⟩
    · rw [pr_last]
      have h3 : (q + 1) * tz T (c + 1 + j) ≤ pr (tz T) (c + 1) j * tz T (c + 1 + j) := Nat.mul_le_mul_right _ hq
      rw [Nat.add_mul, Nat.one_mul] at h3
      omega
    · show hor T v (c + 1 + j) * tz T (c + 1 + j) + v (c + 1 + j) = _
      rw [e, pr_last, Nat.add_mul, Nat.mul_assoc, Nat.add_assoc]
theorem dig_hor {T : Tb} {v : Nat → Nat} (hv : ∀ c, c < tn T → v c < tz T c) {c : Nat} (hc : c < tn T) : dig T (hor T v (tn T)) c = v c := by
  obtain ⟨q, hq, e⟩ := hor_tail (T := T) (v := v) (tn T - 1 - c) c (fun i hi => hv i (by omega))
  rw [show c + 1 + (tn T - 1 - c) = tn T by omega] at e
  have h1 : (hor T v (c + 1) * str T c + q) / str T c = hor T v (c + 1) := by
    have hq2 : q < str T c := hq
    rw [Nat.mul_comm, Nat.mul_add_div (by omega), Nat.div_eq_of_lt hq2, Nat.add_zero]
  have e2 : hor T v (tn T) = hor T v (c + 1) * str T c + q := e
  unfold dig
  rw [e2, h1, hor, Nat.mul_comm, Nat.mul_add_mod, Nat.mod_eq_of_lt (hv c hc)]
theorem hor_cas {T : Tb} {v : Nat → Nat} (hv : ∀ c, c < tn T → v c < tz T c) : hor T v (tn T) < cas T := hor_lt (tn T) hv
theorem hor_cong {T : Tb} {v u : Nat → Nat} : ∀ m, (∀ c, c < m → v c = u c) → hor T v m = hor T u m
  | 0, _ => rfl
  | m + 1, h => by rw [hor, hor, hor_cong m (fun c hc => h c (by omega)), h m (by omega)]
/-! conflicts -/
def ovl (T : Tb) (i j c : Nat) : Nat := ts T (i * 4 + c) &&& ts T (j * 4 + c)
def ovF (T : Tb) (i j : Nat) : Bool := decide (¬ fa_first (fun c => decide (ovl T i j c = 0)) (tn T) < tn T)
def cfl (T : Tb) (i j : Nat) : Bool := decide (¬ ta T i = ta T j) && ovF T i j
theorem ovl_lt {T : Tb} (h : TOk T) (i j c : Nat) : ovl T i j c < 32 := Nat.lt_of_le_of_lt Nat.and_le_left (h.s32 _)
theorem ovF_t {T : Tb} {i j : Nat} (h : ovF T i j = true) {c : Nat} (hc : c < tn T) : 0 < ovl T i j c := by
  have h1 : ¬ fa_first (fun c => decide (ovl T i j c = 0)) (tn T) < tn T := of_decide_eq_true h
  have hle := fa_first_le (fun c => decide (ovl T i j c = 0)) (tn T)
  have h2 := fa_first_no (fun c => decide (ovl T i j c = 0)) (tn T) c (by omega)
  have h3 : ¬ ovl T i j c = 0 := of_decide_eq_false h2
  omega
theorem x_cfl (hT : TOk T) (hX : XT T tc tca tru tdf tsi tst tco twe tse tac trw) {i j : Nat} (hi : i < tr T) (hj : j < tr T) : f_X4_inConflict tc tse tac (nI i) (nI j) = some (cfl T i j) := by
  have h12 := hT.r12
  have h4 := hT.n4
  have ai := hT.a9 i
  have aj := hT.a9 j
  unfold f_X4_inConflict cfl
  rw [rd_nI (by omega) (by decide), rd_nI (by omega) (by decide), hX.a hi, hX.a hj]
  by_cases q : ta T i = ta T j
  · rw [if_pos (by rw [q]), decide_eq_false (fun w => w q), Bool.false_and]
  · rw [if_neg (fun w => q ((nI_eq (by omega) (by omega)).mp w)), decide_eq_true q, Bool.true_and]
    refine Eq.trans (wl_find (fun c => decide (ovl T i j c = 0)) (tn T) (by omega) (fun _ => false) true (fun c hc hp => ?_) (fun c hc hp => ?_) ?_) ?_
    · show f_X4_inConflict_s19 tc tse (nI i) (nI j) (nI c) = _
      unfold f_X4_inConflict_s19
      rw [hX.n, if_neg (nI_ge hc (by omega)), setOf_x (by omega), bd_go, setOf_x (by omega), bd_go, hX.s (by omega), hX.s (by omega), fa_and, if_neg (fun w => by rw [nI_0i (by have := ovl_lt hT i j c; exact Nat.lt_trans this (by decide))] at w; exact of_decide_eq_false hp w), nI_1]
    · show f_X4_inConflict_s19 tc tse (nI i) (nI j) (nI c) = _
      unfold f_X4_inConflict_s19
      rw [hX.n, if_neg (nI_ge hc (by omega)), setOf_x (by omega), bd_go, setOf_x (by omega), bd_go, hX.s (by omega), hX.s (by omega), fa_and, if_pos (by rw [nI_0i (by have := ovl_lt hT i j c; exact Nat.lt_trans this (by decide))]; exact of_decide_eq_true hp)]
    · show f_X4_inConflict_s19 tc tse (nI i) (nI j) (nI (tn T)) = _
      unfold f_X4_inConflict_s19
      rw [hX.n, if_pos (Int32.le_refl _)]
    · unfold ovF
      by_cases w : fa_first (fun c => decide (ovl T i j c = 0)) (tn T) < tn T
      · rw [if_pos w, decide_eq_false (fun u => u w)]
      · rw [if_neg w, decide_eq_true w]
/-- the lowest case that both match -/
def lcc (T : Tb) (i j : Nat) : Nat := hor T (fun c => lob (ovl T i j c)) (tn T)
theorem ov_sz {T : Tb} (h : TOk T) {i j c : Nat} (hi : i < tr T) (hc : c < tn T) (h0 : 0 < ovl T i j c) : lob (ovl T i j c) < tz T c := lob_lt _ (ovl_lt h i j c) h0 _ (h.z5 c) (Nat.lt_of_le_of_lt Nat.and_le_left (h.s hi hc).2)
theorem x_lcc (hT : TOk T) (hX : XT T tc tca tru tdf tsi tst tco twe tse tac trw) {i j : Nat} (hi : i < tr T) (hj : j < tr T) (ho : ovF T i j = true) : f_X4_lowestCommonCase tc tst tse (nI i) (nI j) = some (nI (lcc T i j)) := by
  have h12 := hT.r12
  have h4 := hT.n4
  unfold f_X4_lowestCommonCase lcc
  rw [← hor_all]
  refine wl_for (fun c => (nI (fb_sm (fun c => lob (ovl T i j c) * str T c) c), nI c)) (tn T) (fun c hc => ?_) ?_ (by omega)
  · show f_X4_lowestCommonCase_s5 tc tst tse (nI i) (nI j) (nI _) (nI c) = _
    unfold f_X4_lowestCommonCase_s5
    rw [hX.n, if_neg (nI_ge hc (by omega)), setOf_x (by omega), bd_go, setOf_x (by omega), bd_go, hX.s (by omega), hX.s (by omega), fa_and]
    rw [show ts T (i * 4 + c) &&& ts T (j * 4 + c) = ovl T i j c from rfl, lob_x _ (ovl_lt hT i j c) (ovF_t ho hc), bd_go, rd_nI (by omega) (by decide), hX.st hc, pk_mul, nI_add, nI_1]
    rfl
  · show f_X4_lowestCommonCase_s5 tc tst tse (nI i) (nI j) (nI _) (nI (tn T)) = _
    unfold f_X4_lowestCommonCase_s5
    rw [hX.n, if_pos (Int32.le_refl _)]
theorem m_common (hT : TOk T) (hM : MT T mc mru mst msi mwe mco mse mac) {i j : Nat} (hi : i < tr T) (hj : j < tr T) : f_X7_common mc msi mse (nI i) (nI j) = some (if ovF T i j then nI (lcc T i j) else (-6 : Int32)) := by
  have h12 := hT.r12
  have h4 := hT.n4
  unfold f_X7_common
  have e := wl_findS (f := fun q => f_X7_common_s5 mc msi mse (nI i) (nI j) q.1 q.2) (fun c => (nI (hor T (fun c => lob (ovl T i j c)) c), nI c)) (fun c => decide (ovl T i j c = 0)) (tn T) (by omega) (fun _ => (-6 : Int32)) (nI (lcc T i j)) (fun c hc hp => ?_) (fun c hc _ hp => ?_) (fun _ => ?_)
  · rw [show ((0 : Int32), (0 : Int32)) = (fun c => (nI (hor T (fun c => lob (ovl T i j c)) c), nI c)) 0 from rfl, e]
    unfold ovF
    by_cases w : fa_first (fun c => decide (ovl T i j c = 0)) (tn T) < tn T
    · rw [if_pos w, if_neg (by rw [decide_eq_false (fun u => u w)]; decide)]
    · rw [if_neg w, if_pos (decide_eq_true w)]
  · show f_X7_common_s5 mc msi mse (nI i) (nI j) (nI _) (nI c) = _
    have hp := hp c (by omega)
    have h0 : 0 < ovl T i j c := by have := of_decide_eq_false hp; omega
    unfold f_X7_common_s5
    rw [hM.n, if_neg (nI_ge hc (by omega)), show (4 : Int32) = nI 4 from rfl, pk_mul, pk_mul, nI_add, nI_add, rd_nI (by omega) (by decide), rd_nI (by omega) (by decide), show 4 * i + c = i * 4 + c by omega, show 4 * j + c = j * 4 + c by omega, hM.s (by omega), hM.s (by omega), fa_and]
    rw [show ts T (i * 4 + c) &&& ts T (j * 4 + c) = ovl T i j c from rfl, if_neg (fun w => by rw [nI_0i (by have := ovl_lt hT i j c; omega)] at w; omega), rd_nI (by omega) (by decide), hM.z (by omega), lob_m _ (ovl_lt hT i j c) h0, bd_go, pk_mul, nI_add, nI_1]
    rfl
  · show f_X7_common_s5 mc msi mse (nI i) (nI j) (nI _) (nI c) = _
    unfold f_X7_common_s5
    rw [hM.n, if_neg (nI_ge hc (by omega)), show (4 : Int32) = nI 4 from rfl, pk_mul, pk_mul, nI_add, nI_add, rd_nI (by omega) (by decide), rd_nI (by omega) (by decide), show 4 * i + c = i * 4 + c by omega, show 4 * j + c = j * 4 + c by omega, hM.s (by omega), hM.s (by omega), fa_and]
    rw [show ts T (i * 4 + c) &&& ts T (j * 4 + c) = ovl T i j c from rfl, if_pos (by rw [of_decide_eq_true hp]; rfl)]
  · show f_X7_common_s5 mc msi mse (nI i) (nI j) (nI _) (nI (tn T)) = _
    unfold f_X7_common_s5
    rw [hM.n, if_pos (Int32.le_refl _)]
    rfl
theorem lcc_lt (hT : TOk T) {i j : Nat} (hi : i < tr T) (ho : ovF T i j = true) : lcc T i j < 625 := by
  have h1 := hor_cas (T := T) (v := fun c => lob (ovl T i j c)) (fun c hc => ov_sz hT hi hc (ovF_t ho hc))
  have h2 := cas_le hT
  show hor T _ (tn T) < 625
  omega
theorem m_cfl (hT : TOk T) (hM : MT T mc mru mst msi mwe mco mse mac) {i j : Nat} (hi : i < tr T) (hj : j < tr T) : f_X7_isConflict mc msi mse mac (nI i) (nI j) = some (cfl T i j) := by
  have h12 := hT.r12
  have ai := hT.a9 i
  have aj := hT.a9 j
  unfold f_X7_isConflict cfl
  rw [rd_nI (by omega) (by decide), rd_nI (by omega) (by decide), hM.a hi, hM.a hj]
  by_cases q : ta T i = ta T j
  · rw [if_pos (by rw [q]), decide_eq_false (fun w => w q), Bool.false_and]
  · rw [if_neg (fun w => q ((nI_eq (by omega) (by omega)).mp w)), decide_eq_true q, Bool.true_and, m_common hT hM hi hj, bd_go]
    cases ho : ovF T i j with
    | true => rw [if_pos rfl, if_neg (nI_m6 (by have := lcc_lt hT hi ho; omega))]
    | false => exact if_pos rfl
/-- one row of pairs, from j on, with s conflicts seen before: what is seen behind it, or the pair that was asked for -/
def rowF (c q : Nat → Bool) : Nat → Nat → Nat → Nat × Option Nat
  | 0, _, s => (s, none)
  | m + 1, j, s => if c j then (if q s then (s, some j) else rowF c q m (j + 1) (s + 1)) else rowF c q m (j + 1) s
def allF (cf : Nat → Nat → Bool) (q : Nat → Bool) (nr : Nat) : Nat → Nat → Nat → Nat × Option (Nat × Nat)
  | 0, _, s => (s, none)
  | m + 1, i, s => match rowF (cf i) q (nr - (i + 1)) (i + 1) s with
    | (s', none) => allF cf q nr m (i + 1) s'
    | (s', some j) => (s', some (i, j))
theorem row_w {α : Type} {nr i : Nat} {c q : Nat → Bool} {S : Nat → Int32} {fi : Int32 × Int32 → Option ((Int32 × Int32) ⊕ ((Int32 × Int32) ⊕ α))} {R : Nat → α} (h0 : ∀ j s, i < j → j < nr → c j = false → fi (S s, nI j) = some (.inl (S s, nI (j + 1)))) (h1 : ∀ j s, i < j → j < nr → c j = true → q s = false → s < 5000 → fi (S s, nI j) = some (.inl (S (s + 1), nI (j + 1)))) (h2 : ∀ j s, i < j → j < nr → c j = true → q s = true → s < 5000 → fi (S s, nI j) = some (.inr (.inr (R j)))) (h3 : ∀ s, fi (S s, nI nr) = some (.inr (.inl (S s, nI (i + 1))))) : ∀ (m j s n : Nat), i < j → j + m = nr → m < n → s + m < 5000 → (rowF c q m j s).1 ≤ s + m ∧ wl fi n (S s, nI j) = some (match rowF c q m j s with
    | (s', none) => .inl (S s', nI (i + 1))
    | (_, some j') => .inr (R j')) := by
  intro m
  induction m with
  | zero =>
    intro j s n hij hj hn hs
    obtain ⟨n, rfl⟩ : ∃ k, n = k + 1 := ⟨n - 1, by omega⟩
    obtain rfl : j = nr := by omega
    exact ⟨Nat.le_refl _, wl_r (h3 s)⟩
  | succ m ih =>
    intro j s n hij hj hn hs
    obtain ⟨n, rfl⟩ : ∃ k, n = k + 1 := ⟨n - 1, by omega⟩
    rw [rowF]
    cases hc : c j with
    | false =>
      rw [if_neg (by decide), wl_c (h0 j s hij (by omega) hc)]
      obtain ⟨a, b⟩ := ih (j + 1) s n (by omega) (by omega) (by omega) (by omega)
      exact ⟨by omega, b⟩
    | true =>
      rw [if_pos rfl]
      cases hq : q s with
      | true =>
        rw [if_pos rfl, wl_r (h2 j s hij (by omega) hc hq (by omega))]
        exact ⟨by omega, rfl⟩
      | false =>
        rw [if_neg (by decide), wl_c (h1 j s hij (by omega) hc hq (by omega))]
        obtain ⟨a, b⟩ := ih (j + 1) (s + 1) n (by omega) (by omega) (by omega) (by omega)
        exact ⟨by omega, b⟩
theorem all_w {α : Type} {nr : Nat} (hnr : nr ≤ 12) {cf : Nat → Nat → Bool} {q : Nat → Bool} {S : Nat → Int32} {fo : Int32 × Int32 → Option ((Int32 × Int32) ⊕ α)} {fi : Nat → Int32 × Int32 → Option ((Int32 × Int32) ⊕ ((Int32 × Int32) ⊕ α))} {R : Nat → Nat → α} {E : Nat → α} (h0 : ∀ i j s, i < j → j < nr → cf i j = false → fi i (S s, nI j) = some (.inl (S s, nI (j + 1)))) (h1 : ∀ i j s, i < j → j < nr → cf i j = true → q s = false → s < 5000 → fi i (S s, nI j) = some (.inl (S (s + 1), nI (j + 1)))) (h2 : ∀ i j s, i < j → j < nr → cf i j = true → q s = true → s < 5000 → fi i (S s, nI j) = some (.inr (.inr (R i j)))) (h3 : ∀ i s, i < nr → fi i (S s, nI nr) = some (.inr (.inl (S s, nI (i + 1))))) (h4 : ∀ i s, i < nr → fo (S s, nI i) = wl (fi i) 5000 (S s, nI (i + 1))) (h5 : ∀ s, fo (S s, nI nr) = some (.inr (E s))) : wl fo 5000 (S 0, nI 0) = some (match allF cf q nr nr 0 0 with
    | (s, none) => E s
    | (_, some (i, j)) => R i j) := by
  have key : ∀ (m i s n : Nat), i + m = nr → m < n → s + m * 12 < 5000 → wl fo n (S s, nI i) = some (match allF cf q nr m i s with
      | (s, none) => E s
      | (_, some (i, j)) => R i j) := by
    intro m
    induction m with
    | zero =>
      intro i s n hi hn hs
      obtain ⟨n, rfl⟩ : ∃ k, n = k + 1 := ⟨n - 1, by omega⟩
      obtain rfl : i = nr := by omega
      exact wl_r (h5 s)
    | succ m ih =>
      intro i s n hi hn hs
      obtain ⟨n, rfl⟩ : ∃ k, n = k + 1 := ⟨n - 1, by omega⟩
      obtain ⟨a, b⟩ := row_w (i := i) (fi := fi i) (R := R i) (h0 i) (h1 i) (h2 i) (fun s => h3 i s (by omega)) (nr - (i + 1)) (i + 1) s 5000 (by omega) (by omega) (by omega) (by omega)
      rw [← h4 i s (by omega)] at b
      rw [allF]
      cases hr : rowF (cf i) q (nr - (i + 1)) (i + 1) s with
      | mk s' o =>
        rw [hr] at a b
        cases o with
        | none =>
          rw [wl_c b]
          exact ih (i + 1) s' n (by omega) (by omega) (by have : s' ≤ s + (nr - (i + 1)) := a; omega)
        | some j => exact wl_r b
  exact key nr 0 0 5000 (by omega) (by omega) (by omega)
end B
