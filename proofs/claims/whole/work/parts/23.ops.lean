/-! answers of the calls that only read the table -/
theorem btF_le (T : Tb) (k : Nat) : ∀ c, btF T k c ≤ 2 ^ tr T - 1
  | 0 => Nat.le_refl _
  | c + 1 => Nat.le_trans (Nat.and_le_left) (btF_le T k c)
theorem bts_lt {T : Tb} (h : TOk T) (k : Nat) : bts T k < 4096 := by
  have h1 := btF_le T k (tn T)
  have h2 : 2 ^ tr T ≤ 2 ^ 12 := Nat.pow_le_pow_right (by decide) h.r12
  have h3 : 0 < 2 ^ tr T := Nat.pow_pos (by decide)
  show btF T k (tn T) < 4096
  omega
theorem bts_0 (T : Tb) (k : Nat) : bts T k = 0 ↔ ¬ fst T k < tr T := by
  constructor
  · intro h q
    have h1 := fa_first_yes (mt T k) (tr T) q
    have h2 := tb_bts T k (fst T k)
    rw [h, Nat.zero_testBit, show mt T k (fst T k) = true from h1] at h2
    simp [q] at h2
  · intro q
    apply Nat.eq_of_testBit_eq
    intro r
    rw [tb_bts, Nat.zero_testBit]
    by_cases hr : r < tr T
    · have hle := fa_first_le (mt T k) (tr T)
      have e : fa_first (mt T k) (tr T) = tr T := by
        have : ¬ fa_first (mt T k) (tr T) < tr T := q
        omega
      rw [fa_first_no (mt T k) (tr T) r (by omega), Bool.and_false]
    · simp [hr]
def gpp (T : Tb) (k : Nat) : Bool := decide (bts T k = 0)
theorem nI_0i {n : Nat} (h : n < 2 ^ 31) : nI n = (0 : Int32) ↔ n = 0 := by
  rw [show (0 : Int32) = nI 0 from rfl, nI_eq h (by decide)]
theorem m_isCase {T : Tb} {mc mru mst : Int32} {msi mwe mco mse mac : Nat → Int32} (hT : TOk T) (h : MT T mc mru mst msi mwe mco mse mac) (x : Int32) : f_X7_isCase mc msi x = some (hasb (cas T) x) := by
  unfold f_X7_isCase
  rw [m_cases hT h, bd_go, m_in0 (by have := cas_le hT; omega), bd_go]
theorem m_isCond {T : Tb} {mc mru mst : Int32} {msi mwe mco mse mac : Nat → Int32} (hT : TOk T) (h : MT T mc mru mst msi mwe mco mse mac) (x : Int32) : f_X7_isCondition mc x = some (hasb (tn T) x) := by
  unfold f_X7_isCondition
  rw [h.n, m_in0 (by have := hT.n4; omega), bd_go]
theorem m_isRule {T : Tb} {mc mru mst : Int32} {msi mwe mco mse mac : Nat → Int32} (hT : TOk T) (h : MT T mc mru mst msi mwe mco mse mac) (x : Int32) : f_X7_isRule mru x = some (hasb (tr T) x) := by
  unfold f_X7_isRule
  rw [h.r, m_in0 (by have := hT.r12; omega), bd_go]
theorem setOf_x {tse : Nat → Int32} {r c : Nat} (h : r * 4 + c < 48) : f_X4_setOf tse (nI r) (nI c) = some (tse (r * 4 + c)) := by
  unfold f_X4_setOf
  rw [show (4 : Int32) = nI 4 from rfl, pk_mul, nI_add, rd_nI h (by decide)]
theorem told_dI {d : Nat} (h : d ≤ 10) : f_X7_told (dI d) = some (if d = 0 then (-6 : Int32) else dI d) := by
  unfold f_X7_told
  cases d with
  | zero => rfl
  | succ a => rw [if_neg (show ¬ dI (a + 1) = -1 from nI_m1 (by omega)), if_neg (by omega)]
theorem ans_dI {d : Nat} (h : d ≤ 10) : f_X6_actionAnswer (dI d) = some (if d = 0 then (-6 : Int32) else dI d) := by
  unfold f_X6_actionAnswer
  cases d with
  | zero => rfl
  | succ a => rw [if_pos (show 0 ≤ dI (a + 1) from nI_pos' (by omega)), if_neg (by omega)]
theorem actc_le {T : Tb} (h : TOk T) (k : Nat) : actc T k ≤ 10 := by
  unfold actc
  by_cases q : fst T k < tr T
  · rw [if_pos q]; have := h.a9 (fst T k); omega
  · rw [if_neg q]; exact h.d10
/-- the rules that match, bit by bit -/
def mbF (T : Tb) (k : Nat) : Nat → Nat
  | 0 => 0
  | r + 1 => mbF T k r ||| (if mt T k r then 1 <<< r else 0)
theorem tb_mbF (T : Tb) (k r : Nat) : ∀ m, (mbF T k m).testBit r = (decide (r < m) && mt T k r)
  | 0 => by simp [mbF]
  | m + 1 => by
    rw [mbF, Nat.testBit_or, tb_mbF T k r m]
    by_cases h2 : r = m
    · subst h2
      by_cases b : mt T k r <;> simp [b]
    · have h3 : (1 <<< m).testBit r = false := by
        rw [Nat.one_shiftLeft, Nat.testBit_two_pow]
        simp
        omega
      have h4 : decide (r < m + 1) = decide (r < m) := by
        by_cases q : r < m
        · rw [decide_eq_true q, decide_eq_true (by omega)]
        · rw [decide_eq_false q, decide_eq_false (by omega)]
      rw [h4]
      by_cases b : mt T k m <;> simp [b, h3]
theorem mbF_bts (T : Tb) (k : Nat) : mbF T k (tr T) = bts T k := by
  apply Nat.eq_of_testBit_eq
  intro r
  rw [tb_mbF, tb_bts]
section B
variable {T : Tb} {tc tca tru tdf : Int32} {tsi tst tco twe tse tac trw : Nat → Int32} {mc mru mst : Int32} {msi mwe mco mse mac : Nat → Int32}
theorem eq_valueIn (hT : TOk T) (hX : XT T tc tca tru tdf tsi tst tco twe tse tac trw) (hM : MT T mc mru mst msi mwe mco mse mac) (a b : Int32) : ∃ r, f_X6_valueIn tc tca tsi tst a b = some r ∧ f_X7_valueIn mc msi a b = some r := by
  have hc := cas_le hT
  have h4 := hT.n4
  unfold f_X6_valueIn f_X7_valueIn
  rw [hX.ca, x_hasK, bd_go, m_isCase hT hM, bd_go]
  cases h1 : hasb (cas T) a with
  | false => exact ⟨_, rfl, rfl⟩
  | true =>
    obtain ⟨k, hk, rfl⟩ := hb_t (by omega) h1
    rw [if_pos rfl, if_pos rfl, hX.n, x_hasC, bd_go, m_isCond hT hM, bd_go]
    cases h2 : hasb (tn T) b with
    | false => exact ⟨_, rfl, rfl⟩
    | true =>
      obtain ⟨c, hc', rfl⟩ := hb_t (by omega) h2
      rw [if_pos rfl, if_pos rfl, x_dig hT hX (by omega) hc', bd_go, m_value hT hM (by omega) hc', bd_go]
      exact ⟨_, rfl, rfl⟩
theorem eq_ruleSet (hT : TOk T) (hX : XT T tc tca tru tdf tsi tst tco twe tse tac trw) (hM : MT T mc mru mst msi mwe mco mse mac) (a b : Int32) : ∃ r, f_X6_ruleSet tc tru tse a b = some r ∧ f_X7_ruleSet mc mru mse a b = some r := by
  have h12 := hT.r12
  have h4 := hT.n4
  unfold f_X6_ruleSet f_X7_ruleSet
  rw [hX.r, x_hasR, bd_go, m_isRule hT hM, bd_go]
  cases h1 : hasb (tr T) a with
  | false => exact ⟨_, rfl, rfl⟩
  | true =>
    obtain ⟨r, hr, rfl⟩ := hb_t (by omega) h1
    rw [if_pos rfl, if_pos rfl, hX.n, x_hasC, bd_go, m_isCond hT hM, bd_go]
    cases h2 : hasb (tn T) b with
    | false => exact ⟨_, rfl, rfl⟩
    | true =>
      obtain ⟨c, hc', rfl⟩ := hb_t (by omega) h2
      rw [if_pos rfl, if_pos rfl, setOf_x (by omega), bd_go, hX.s (by omega), show (4 : Int32) = nI 4 from rfl, pk_mul, nI_add, rd_nI (by omega) (by decide), show 4 * r + c = r * 4 + c by omega, hM.s (by omega)]
      exact ⟨_, rfl, rfl⟩
theorem eq_ruleAction (hT : TOk T) (hX : XT T tc tca tru tdf tsi tst tco twe tse tac trw) (hM : MT T mc mru mst msi mwe mco mse mac) (a : Int32) : ∃ r, f_X6_ruleAction tru tac a = some r ∧ f_X7_ruleAction mru mac a = some r := by
  have h12 := hT.r12
  unfold f_X6_ruleAction f_X7_ruleAction
  rw [hX.r, x_hasR, bd_go, m_isRule hT hM, bd_go]
  cases h1 : hasb (tr T) a with
  | false => exact ⟨_, rfl, rfl⟩
  | true =>
    obtain ⟨r, hr, rfl⟩ := hb_t (by omega) h1
    rw [if_pos rfl, if_pos rfl, rd_nI (by omega) (by decide), rd_nI (by omega) (by decide), hX.a hr, hM.a hr]
    exact ⟨_, rfl, rfl⟩
/-- the answer of Integer.bitCount, which is always one -/
def bcnt (x : Int32) : Int32 := (f_J6_bitCount_0f7a4 x).getD 0
theorem bcnt_s (x : Int32) : f_J6_bitCount_0f7a4 x = some (bcnt x) := rfl
def bcF (T : Tb) (r : Nat) : Nat → Int32
  | 0 => 1
  | c + 1 => bcF T r c * bcnt (nI (ts T (r * 4 + c)))
theorem eq_ruleCases (hT : TOk T) (hX : XT T tc tca tru tdf tsi tst tco twe tse tac trw) (hM : MT T mc mru mst msi mwe mco mse mac) (a : Int32) : ∃ r, f_X6_ruleCases tc tru tse a = some r ∧ f_X7_ruleCases mc mru mse a = some r := by
  have h12 := hT.r12
  have h4 := hT.n4
  unfold f_X6_ruleCases f_X7_ruleCases
  rw [hX.r, x_hasR, bd_go, m_isRule hT hM, bd_go]
  cases h1 : hasb (tr T) a with
  | false => exact ⟨_, rfl, rfl⟩
  | true =>
    obtain ⟨r, hr, rfl⟩ := hb_t (by omega) h1
    rw [if_pos rfl, if_pos rfl]
    refine ⟨bcF T r (tn T), wl_for (fun c => (bcF T r c, nI c)) (tn T) (fun c hc => ?_) ?_ (by omega), wl_for (fun c => (bcF T r c, nI c)) (tn T) (fun c hc => ?_) ?_ (by omega)⟩
    · show f_X6_ruleCases_s18 tc tse (nI r) (bcF T r c) (nI c) = _
      unfold f_X6_ruleCases_s18
      rw [hX.n, if_neg (nI_ge hc (by omega)), setOf_x (by omega), bd_go, hX.s (by omega), bcnt_s, bd_go, nI_1]
      rfl
    · show f_X6_ruleCases_s18 tc tse (nI r) (bcF T r (tn T)) (nI (tn T)) = _
      unfold f_X6_ruleCases_s18
      rw [hX.n, if_pos (Int32.le_refl _)]
    · show f_X7_ruleCases_s15 mc mse (nI r) (bcF T r c) (nI c) = _
      unfold f_X7_ruleCases_s15
      rw [hM.n, if_neg (nI_ge hc (by omega)), show (4 : Int32) = nI 4 from rfl, pk_mul, nI_add, rd_nI (by omega) (by decide), show 4 * r + c = r * 4 + c by omega, hM.s (by omega), bcnt_s, bd_go, nI_1]
      rfl
    · show f_X7_ruleCases_s15 mc mse (nI r) (bcF T r (tn T)) (nI (tn T)) = _
      unfold f_X7_ruleCases_s15
      rw [hM.n, if_pos (Int32.le_refl _)]
theorem eq_firstMatch (hT : TOk T) (hX : XT T tc tca tru tdf tsi tst tco twe tse tac trw) (hM : MT T mc mru mst msi mwe mco mse mac) (a : Int32) : ∃ r, f_X6_firstMatch tc tca tru tsi tst trw a = some r ∧ f_X7_firstMatch mc msi mru mse a = some r := by
  have hc := cas_le hT
  have h12 := hT.r12
  unfold f_X6_firstMatch f_X7_firstMatch
  rw [hX.ca, x_hasK, bd_go, m_isCase hT hM, bd_go]
  cases h1 : hasb (cas T) a with
  | false => exact ⟨_, rfl, rfl⟩
  | true =>
    obtain ⟨k, hk, rfl⟩ := hb_t (by omega) h1
    rw [if_pos rfl, if_pos rfl, x_firstRule hT hX (by omega), bd_go, m_first hT hM (by omega), bd_go]
    by_cases q : fst T k < tr T
    · rw [if_pos q, if_pos q, if_pos (nI_pos' (by omega))]
      exact ⟨_, rfl, rfl⟩
    · rw [if_neg q, if_neg q, if_neg (by decide)]
      exact ⟨_, rfl, rfl⟩
theorem eq_matches (hT : TOk T) (hX : XT T tc tca tru tdf tsi tst tco twe tse tac trw) (hM : MT T mc mru mst msi mwe mco mse mac) (a : Int32) : ∃ r, f_X6_matches tc tca tru tsi tst trw a = some r ∧ f_X7_matches mc msi mru mse a = some r := by
  have hc := cas_le hT
  have h12 := hT.r12
  unfold f_X6_matches f_X7_matches
  rw [hX.ca, x_hasK, bd_go, m_isCase hT hM, bd_go]
  cases h1 : hasb (cas T) a with
  | false => exact ⟨_, rfl, rfl⟩
  | true =>
    obtain ⟨k, hk, rfl⟩ := hb_t (by omega) h1
    rw [if_pos rfl, if_pos rfl, x_rulesFor hT hX (by omega), bd_go]
    refine ⟨_, rfl, ?_⟩
    rw [← mbF_bts]
    refine wl_for (fun r => (nI (mbF T k r), nI r)) (tr T) (fun r hr => ?_) ?_ (by omega)
    · show f_X7_matches_s15 mc msi mru mse (nI k) (nI (mbF T k r)) (nI r) = _
      unfold f_X7_matches_s15
      rw [hM.r, if_neg (nI_ge hr (by omega)), m_fits hT hM (by omega) hr, bd_go, mbF]
      cases mt T k r with
      | true => rw [if_pos rfl, nm_go, sh_1 _ (by omega), fa_or, nI_1]; rfl
      | false => rw [if_neg (by decide), show (0 : Int32) = nI 0 from rfl, fa_or, nI_1]; rfl
    · show f_X7_matches_s15 mc msi mru mse (nI k) (nI (mbF T k (tr T))) (nI (tr T)) = _
      unfold f_X7_matches_s15
      rw [hM.r, if_pos (Int32.le_refl _)]
theorem eq_action (hT : TOk T) (hX : XT T tc tca tru tdf tsi tst tco twe tse tac trw) (hM : MT T mc mru mst msi mwe mco mse mac) (a : Int32) : ∃ r, f_X6_action tc tca tru tdf tsi tst tac trw a = some r ∧ f_X7_action mc msi mru mse mac mst a = some r := by
  have hc := cas_le hT
  unfold f_X6_action f_X7_action
  rw [hX.ca, x_hasK, bd_go, m_isCase hT hM, bd_go]
  cases h1 : hasb (cas T) a with
  | false => exact ⟨_, rfl, rfl⟩
  | true =>
    obtain ⟨k, hk, rfl⟩ := hb_t (by omega) h1
    rw [if_pos rfl, if_pos rfl, x_action hT hX (by omega), bd_go, m_action hT hM (by omega), bd_go, ans_dI (actc_le hT k), bd_go, told_dI (actc_le hT k), bd_go]
    exact ⟨_, rfl, rfl⟩
theorem x_gz (hT : TOk T) (k : Nat) : (nI (bts T k) = (0 : Int32)) ↔ gpp T k = true := by
  rw [nI_0i (by have := bts_lt hT k; omega)]
  exact decide_eq_true_iff.symm
theorem m_gz (hT : TOk T) (k : Nat) : ((if fst T k < tr T then nI (fst T k) else (-6 : Int32)) = (-6 : Int32)) ↔ gpp T k = true := by
  have h12 := hT.r12
  rw [gpp, decide_eq_true_iff, bts_0]
  by_cases q : fst T k < tr T
  · rw [if_pos q]
    exact ⟨fun e => absurd e (nI_m6 (by omega)), fun e => absurd q e⟩
  · rw [if_neg q]
    exact ⟨fun _ => q, fun _ => rfl⟩
theorem eq_gapCount (hT : TOk T) (hX : XT T tc tca tru tdf tsi tst tco twe tse tac trw) (hM : MT T mc mru mst msi mwe mco mse mac) : ∃ r, f_X6_gapCount tc tca tru tsi tst trw = some r ∧ f_X7_gapCount mc msi mru mse = some r := by
  have hc := cas_le hT
  unfold f_X6_gapCount f_X7_gapCount
  rw [m_cases hT hM, bd_go]
  refine ⟨nI (fb_ct (gpp T) (cas T)), wl_for (fun k => (nI (fb_ct (gpp T) k), nI k)) (cas T) (fun k hk => ?_) ?_ (by omega), wl_for (fun k => (nI (fb_ct (gpp T) k), nI k)) (cas T) (fun k hk => ?_) ?_ (by omega)⟩
  · show f_X6_gapCount_s4 tc tca tru tsi tst trw (nI (fb_ct (gpp T) k)) (nI k) = _
    unfold f_X6_gapCount_s4
    rw [hX.ca, if_neg (nI_ge hk (by omega)), x_rulesFor hT hX (by omega), bd_go, fb_ct_succ]
    by_cases q : gpp T k = true
    · rw [if_pos ((x_gz hT k).mpr q), q, if_pos rfl, nI_1, nI_1]
    · rw [if_neg (fun w => q ((x_gz hT k).mp w)), if_neg q, nI_1]; rfl
  · show f_X6_gapCount_s4 tc tca tru tsi tst trw (nI (fb_ct (gpp T) (cas T))) (nI (cas T)) = _
    unfold f_X6_gapCount_s4
    rw [hX.ca, if_pos (Int32.le_refl _)]
  · show f_X7_gapCount_s9 mc msi mru mse (nI (cas T)) (nI (fb_ct (gpp T) k)) (nI k) = _
    unfold f_X7_gapCount_s9
    rw [if_neg (nI_ge hk (by omega)), m_first hT hM (by omega), bd_go, fb_ct_succ]
    by_cases q : gpp T k = true
    · rw [if_pos ((m_gz hT k).mpr q), q, if_pos rfl, nI_1, nI_1]
    · rw [if_neg (fun w => q ((m_gz hT k).mp w)), if_neg q, nI_1, show (0 : Int32) = nI 0 from rfl, nI_add]
  · show f_X7_gapCount_s9 mc msi mru mse (nI (cas T)) (nI (fb_ct (gpp T) (cas T))) (nI (cas T)) = _
    unfold f_X7_gapCount_s9
    rw [if_pos (Int32.le_refl _)]
/-- the sum of the gaps' weights up to k -/
def gwF (T : Tb) (k : Nat) : Nat := fb_sm (fun j => if gpp T j then cwt T j else 0) k
theorem m_wl (hT : TOk T) (hM : MT T mc mru mst msi mwe mco mse mac) {k : Nat} (hk : k < 625) (A : Nat) : wl (fun q => f_X7_gapWeight_s22 mc msi mwe mru mse (lN A) (nI k) q.1 q.2) 5000 ((1 : Int64), (0 : Int32)) = some (.inl (lN (A + if gpp T k then cwt T k else 0), nI (k + 1))) := by
  have h4 := hT.n4
  refine wl_for (fun c => (lN (prodw T k c), nI c)) (tn T) (fun c hc => ?_) ?_ (by omega)
  · show f_X7_gapWeight_s22 mc msi mwe mru mse (lN A) (nI k) (lN (prodw T k c)) (nI c) = _
    have hd := dig_lt hT hc k
    have hz := hT.z5 c
    have hw := hT.w9 (c * 5 + dig T k c)
    unfold f_X7_gapWeight_s22
    rw [hM.n, if_neg (nI_ge hc (by omega)), ← hM.n, m_value hT hM (by omega) hc, bd_go, show (5 : Int32) = nI 5 from rfl, pk_mul, nI_add, rd_nI (by omega) (by decide), show 5 * c + dig T k c = c * 5 + dig T k c by omega, hM.w (by omega), nI_l (by omega), lN_mul, nI_1]
    rfl
  · show f_X7_gapWeight_s22 mc msi mwe mru mse (lN A) (nI k) (lN (prodw T k (tn T))) (nI (tn T)) = _
    unfold f_X7_gapWeight_s22
    rw [hM.n, if_pos (Int32.le_refl _), ← hM.n, m_first hT hM (by omega), bd_go]
    by_cases q : gpp T k = true
    · rw [if_pos ((m_gz hT k).mpr q), q, if_pos rfl, lN_add, nI_1]; rfl
    · rw [if_neg (fun w => q ((m_gz hT k).mp w)), if_neg q, nI_1, show (0 : Int64) = lN 0 from rfl, lN_add]
theorem eq_gapWeight (hT : TOk T) (hX : XT T tc tca tru tdf tsi tst tco twe tse tac trw) (hM : MT T mc mru mst msi mwe mco mse mac) : ∃ r, f_X6_gapWeight tc tca tru tsi tst twe trw = some r ∧ f_X7_gapWeight mc msi mwe mru mse = some r := by
  have hc := cas_le hT
  unfold f_X6_gapWeight f_X7_gapWeight
  rw [m_cases hT hM, bd_go]
  refine ⟨lN (gwF T (cas T)), wl_for (fun k => (lN (gwF T k), nI k)) (cas T) (fun k hk => ?_) ?_ (by omega), wl_for (fun k => (lN (gwF T k), nI k)) (cas T) (fun k hk => ?_) ?_ (by omega)⟩
  · show f_X6_gapWeight_s4 tc tca tru tsi tst twe trw (lN (gwF T k)) (nI k) = _
    unfold f_X6_gapWeight_s4
    rw [hX.ca, if_neg (nI_ge hk (by omega)), x_rulesFor hT hX (by omega), bd_go]
    have e : gwF T (k + 1) = gwF T k + if gpp T k then cwt T k else 0 := rfl
    rw [e]
    by_cases q : gpp T k = true
    · rw [if_pos ((x_gz hT k).mpr q), q, if_pos rfl, x_weight hT hX (by omega), bd_go, nI_l (by have := cwt_le hT k; omega), lN_add, nI_1]
    · rw [if_neg (fun w => q ((x_gz hT k).mp w)), if_neg q, nI_1]; rfl
  · show f_X6_gapWeight_s4 tc tca tru tsi tst twe trw (lN (gwF T (cas T))) (nI (cas T)) = _
    unfold f_X6_gapWeight_s4
    rw [hX.ca, if_pos (Int32.le_refl _)]
  · show f_X7_gapWeight_s10 mc msi mwe mru mse (nI (cas T)) (lN (gwF T k)) (nI k) = _
    unfold f_X7_gapWeight_s10
    rw [if_neg (nI_ge hk (by omega)), m_wl hT hM (by omega)]
    rfl
  · show f_X7_gapWeight_s10 mc msi mwe mru mse (nI (cas T)) (lN (gwF T (cas T))) (nI (cas T)) = _
    unfold f_X7_gapWeight_s10
    rw [if_pos (Int32.le_refl _)]
end B
