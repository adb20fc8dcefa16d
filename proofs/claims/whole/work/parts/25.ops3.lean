/-! conflictCount, conflict, isShadowed, sample -/
theorem sub_1 (x y : Int32) : x - (y + 1) = x - y + (-1) := by
  rw [Int32.sub_eq_add_neg, Int32.neg_add, Int32.sub_eq_add_neg, Int32.sub_eq_add_neg, Int32.add_assoc]
section B
variable {T : Tb} {tc tca tru tdf : Int32} {tsi tst tco twe tse tac trw : Nat → Int32} {mc mru mst : Int32} {msi mwe mco mse mac : Nat → Int32}
theorem eq_conflictCount (hT : TOk T) (hX : XT T tc tca tru tdf tsi tst tco twe tse tac trw) (hM : MT T mc mru mst msi mwe mco mse mac) : ∃ r, f_X6_conflictCount tc tru tse tac = some r ∧ f_X7_conflictCount mc msi mru mse mac = some r := by
  have h12 := hT.r12
  unfold f_X6_conflictCount f_X7_conflictCount
  refine ⟨_, all_w (S := fun s => nI s) (fi := fun i q => f_X6_conflictCount_s19 tc tru tse tac (nI i) q.1 q.2) (q := fun _ => false) (cf := cfl T) (R := fun _ _ => 0) (E := fun s => nI s) h12 (fun i j s hi hj hc => ?_) (fun i j s hi hj hc _ _ => ?_) (fun i j s hi hj hc hq _ => absurd hq (by decide)) (fun i s hi => ?_) (fun i s hi => ?_) (fun s => ?_), all_w (S := fun s => nI s) (fi := fun i q => f_X7_conflictCount_s16 mc msi mru mse mac (nI i) q.1 q.2) (q := fun _ => false) (cf := cfl T) (R := fun _ _ => 0) (E := fun s => nI s) h12 (fun i j s hi hj hc => ?_) (fun i j s hi hj hc _ _ => ?_) (fun i j s hi hj hc hq _ => absurd hq (by decide)) (fun i s hi => ?_) (fun i s hi => ?_) (fun s => ?_)⟩
  · show f_X6_conflictCount_s19 tc tru tse tac (nI i) (nI s) (nI j) = _
    unfold f_X6_conflictCount_s19
    rw [hX.r, if_neg (nI_ge hj (by omega)), x_cfl hT hX (by omega) hj, bd_go, hc, if_neg (by decide), nI_1]
  · show f_X6_conflictCount_s19 tc tru tse tac (nI i) (nI s) (nI j) = _
    unfold f_X6_conflictCount_s19
    rw [hX.r, if_neg (nI_ge hj (by omega)), x_cfl hT hX (by omega) hj, bd_go, hc, if_pos rfl, nI_1, nI_1]
  · show f_X6_conflictCount_s19 tc tru tse tac (nI i) (nI s) (nI (tr T)) = _
    unfold f_X6_conflictCount_s19
    rw [hX.r, if_pos (Int32.le_refl _), nI_1]
  · show f_X6_conflictCount_s4 tc tru tse tac (nI s) (nI i) = _
    unfold f_X6_conflictCount_s4
    rw [hX.r, if_neg (nI_ge hi (by omega)), nI_1]
  · show f_X6_conflictCount_s4 tc tru tse tac (nI s) (nI (tr T)) = _
    unfold f_X6_conflictCount_s4
    rw [hX.r, if_pos (Int32.le_refl _)]
  · show f_X7_conflictCount_s16 mc msi mru mse mac (nI i) (nI s) (nI j) = _
    unfold f_X7_conflictCount_s16
    rw [hM.r, if_neg (nI_ge hj (by omega)), m_cfl hT hM (by omega) hj, bd_go, hc, if_neg (by decide), nI_1, show (0 : Int32) = nI 0 from rfl, nI_add]
    rfl
  · show f_X7_conflictCount_s16 mc msi mru mse mac (nI i) (nI s) (nI j) = _
    unfold f_X7_conflictCount_s16
    rw [hM.r, if_neg (nI_ge hj (by omega)), m_cfl hT hM (by omega) hj, bd_go, hc, if_pos rfl, nI_1, nI_1]
  · show f_X7_conflictCount_s16 mc msi mru mse mac (nI i) (nI s) (nI (tr T)) = _
    unfold f_X7_conflictCount_s16
    rw [hM.r, if_pos (Int32.le_refl _), nI_1]
  · show f_X7_conflictCount_s4 mc msi mru mse mac (nI s) (nI i) = _
    unfold f_X7_conflictCount_s4
    rw [hM.r, if_neg (nI_ge hi (by omega)), nI_1]
  · show f_X7_conflictCount_s4 mc msi mru mse mac (nI s) (nI (tr T)) = _
    unfold f_X7_conflictCount_s4
    rw [hM.r, if_pos (Int32.le_refl _)]
theorem cfl_ov {i j : Nat} (h : cfl T i j = true) : ovF T i j = true := by
  unfold cfl at h
  exact (Bool.and_eq_true _ _ ▸ h).2
def cfR (T : Tb) (x2 : Int32) (i j : Nat) : Int32 := if x2 = (0 : Int32) then nI i else if x2 = (1 : Int32) then nI j else nI (lcc T i j)
theorem eq_conflict (hT : TOk T) (hX : XT T tc tca tru tdf tsi tst tco twe tse tac trw) (hM : MT T mc mru mst msi mwe mco mse mac) (x1 x2 : Int32) : ∃ r, f_X6_conflict tc tru tst tse tac x1 x2 = some r ∧ f_X7_conflict mc msi mru mse mac x1 x2 = some r := by
  have h12 := hT.r12
  unfold f_X6_conflict f_X7_conflict
  rw [m_in, bd_go]
  by_cases c1 : x2 < 0
  · rw [if_pos c1, if_neg (fun w => (inb_t w).1 c1)]
    exact ⟨_, rfl, rfl⟩
  · rw [if_neg c1]
    by_cases c2 : x2 ≤ 2
    · rw [if_pos c2, if_pos (show inb x2 0 2 = true from decide_eq_true ⟨c1, fun w => Int32.lt_irrefl (Int32.lt_of_lt_of_le w c2)⟩)]
      refine ⟨_, all_w (S := fun s => nI s) (fi := fun i q => f_X6_conflict_s34 tc tru tst tse tac x1 x2 (nI i) q.1 q.2) (q := fun s => decide (nI s = x1)) (cf := cfl T) (R := cfR T x2) (E := fun _ => (-6 : Int32)) h12 (fun i j s hi hj hc => ?_) (fun i j s hi hj hc hq _ => ?_) (fun i j s hi hj hc hq _ => ?_) (fun i s hi => ?_) (fun i s hi => ?_) (fun s => ?_), ?_⟩
      · show f_X6_conflict_s34 tc tru tst tse tac x1 x2 (nI i) (nI s) (nI j) = _
        unfold f_X6_conflict_s34
        rw [hX.r, if_neg (nI_ge hj (by omega)), x_cfl hT hX (by omega) hj, bd_go, hc, if_neg (by decide), nI_1]
      · show f_X6_conflict_s34 tc tru tst tse tac x1 x2 (nI i) (nI s) (nI j) = _
        unfold f_X6_conflict_s34
        rw [hX.r, if_neg (nI_ge hj (by omega)), x_cfl hT hX (by omega) hj, bd_go, hc, if_pos rfl, if_neg (of_decide_eq_false hq), nI_1, nI_1]
      · show f_X6_conflict_s34 tc tru tst tse tac x1 x2 (nI i) (nI s) (nI j) = _
        unfold f_X6_conflict_s34
        rw [hX.r, if_neg (nI_ge hj (by omega)), x_cfl hT hX (by omega) hj, bd_go, hc, if_pos rfl, if_pos (of_decide_eq_true hq)]
        unfold f_X6_conflictAnswer cfR
        by_cases d1 : x2 = 0
        · rw [if_pos d1, if_pos d1, bd_go]
        · rw [if_neg d1, if_neg d1]
          by_cases d2 : x2 = 1
          · rw [if_pos d2, if_pos d2, bd_go]
          · rw [if_neg d2, if_neg d2, x_lcc hT hX (by omega) hj (cfl_ov hc), bd_go, bd_go]
      · show f_X6_conflict_s34 tc tru tst tse tac x1 x2 (nI i) (nI s) (nI (tr T)) = _
        unfold f_X6_conflict_s34
        rw [hX.r, if_pos (Int32.le_refl _), nI_1]
      · show f_X6_conflict_s16 tc tru tst tse tac x1 x2 (nI s) (nI i) = _
        unfold f_X6_conflict_s16
        rw [hX.r, if_neg (nI_ge hi (by omega)), nI_1]
      · show f_X6_conflict_s16 tc tru tst tse tac x1 x2 (nI s) (nI (tr T)) = _
        unfold f_X6_conflict_s16
        rw [hX.r, if_pos (Int32.le_refl _)]
      · rw [show (x1, (0 : Int32)) = ((fun s => x1 - nI s) 0, nI 0) by show (x1, (0 : Int32)) = (x1 - (0 : Int32), (0 : Int32)); rw [Int32.sub_zero]]
        refine all_w (S := fun s => x1 - nI s) (fi := fun i q => f_X7_conflict_s31 mc msi mru mse mac x2 (nI i) q.1 q.2) (q := fun s => decide (nI s = x1)) (cf := cfl T) (R := cfR T x2) (E := fun _ => (-6 : Int32)) h12 (fun i j s hi hj hc => ?_) (fun i j s hi hj hc hq _ => ?_) (fun i j s hi hj hc hq _ => ?_) (fun i s hi => ?_) (fun i s hi => ?_) (fun s => ?_)
        · show f_X7_conflict_s31 mc msi mru mse mac x2 (nI i) (x1 - nI s) (nI j) = _
          unfold f_X7_conflict_s31
          rw [hM.r, if_neg (nI_ge hj (by omega)), m_cfl hT hM (by omega) hj, bd_go, hc, if_neg (by decide), nI_1]
        · show f_X7_conflict_s31 mc msi mru mse mac x2 (nI i) (x1 - nI s) (nI j) = some (.inl (x1 - nI (s + 1), nI (j + 1)))
          unfold f_X7_conflict_s31
          rw [hM.r, if_neg (nI_ge hj (by omega)), m_cfl hT hM (by omega) hj, bd_go, hc, if_pos rfl, if_neg (fun w => of_decide_eq_false hq ((fb_sub0 _ _).mp w).symm), nI_1, nI_succ s, sub_1]
        · show f_X7_conflict_s31 mc msi mru mse mac x2 (nI i) (x1 - nI s) (nI j) = _
          unfold f_X7_conflict_s31
          rw [hM.r, if_neg (nI_ge hj (by omega)), m_cfl hT hM (by omega) hj, bd_go, hc, if_pos rfl, if_pos ((fb_sub0 _ _).mpr (of_decide_eq_true hq).symm)]
          unfold cfR
          by_cases d1 : x2 = 0
          · rw [if_pos d1, if_pos d1]
          · rw [if_neg d1, if_neg d1]
            by_cases d2 : x2 = 1
            · rw [if_pos d2, if_pos d2]
            · rw [if_neg d2, if_neg d2, m_common hT hM (by omega) hj, bd_go, if_pos (cfl_ov hc)]
        · show f_X7_conflict_s31 mc msi mru mse mac x2 (nI i) (x1 - nI s) (nI (tr T)) = _
          unfold f_X7_conflict_s31
          rw [hM.r, if_pos (Int32.le_refl _), nI_1]
        · show f_X7_conflict_s16 mc msi mru mse mac x2 (x1 - nI s) (nI i) = _
          unfold f_X7_conflict_s16
          rw [hM.r, if_neg (nI_ge hi (by omega)), nI_1]
        · show f_X7_conflict_s16 mc msi mru mse mac x2 (x1 - nI s) (nI (tr T)) = _
          unfold f_X7_conflict_s16
          rw [hM.r, if_pos (Int32.le_refl _)]
    · rw [if_neg c2, if_neg (fun w => (inb_t w).2 (Int32.not_le.mp c2))]
      exact ⟨_, rfl, rfl⟩
/-! shadowed rules -/
def lbt (B : Nat) : Nat := B &&& (4096 - B)
theorem lb_i0 : ∀ a, a < 64 → ∀ b, b < 64 → (nI (64 * a + b) &&& (-(nI (64 * a + b)))) = nI (lbt (64 * a + b)) := by decide +kernel
theorem lb_i : ∀ B, B < 4096 → (nI B &&& (-(nI B))) = nI (lbt B) := by
  intro B hB
  have h := lb_i0 (B / 64) (by omega) (B % 64) (by omega)
  rw [show 64 * (B / 64) + B % 64 = B by omega] at h
  exact h
theorem lb_t0 : ∀ a, a < 64 → ∀ b, b < 64 → ∀ r, r < 12 → (lbt (64 * a + b)).testBit r = ((64 * a + b).testBit r && decide ((64 * a + b) % 2 ^ r = 0)) := by decide +kernel
theorem lb_t : ∀ B, B < 4096 → ∀ r, r < 12 → (lbt B).testBit r = (B.testBit r && decide (B % 2 ^ r = 0)) := by
  intro B hB
  have h := lb_t0 (B / 64) (by omega) (B % 64) (by omega)
  rw [show 64 * (B / 64) + B % 64 = B by omega] at h
  exact h
theorem lb_fst (hT : TOk T) (k : Nat) {r : Nat} (hr : r < tr T) : (lbt (bts T k)).testBit r = decide (fst T k = r) := by
  have h12 := hT.r12
  rw [lb_t _ (bts_lt hT k) r (by omega), tb_bts, decide_eq_true hr, Bool.true_and]
  have hle := fa_first_le (mt T k) (tr T)
  by_cases e : fst T k = r
  · rw [decide_eq_true e]
    have h1 : mt T k r = true := by rw [← e]; exact fa_first_yes (mt T k) (tr T) (by have : fa_first (mt T k) (tr T) = r := e; omega)
    have h2 : bts T k % 2 ^ r = 0 := by
      apply Nat.eq_of_testBit_eq
      intro i
      rw [Nat.testBit_mod_two_pow, Nat.zero_testBit, tb_bts]
      by_cases hi : i < r
      · rw [fa_first_no (mt T k) (tr T) i (by have : fa_first (mt T k) (tr T) = r := e; omega), Bool.and_false, Bool.and_false]
      · rw [decide_eq_false hi, Bool.false_and]
    rw [h1, h2]
    rfl
  · rw [decide_eq_false e]
    by_cases b : mt T k r = true
    · rw [b, Bool.true_and]
      apply decide_eq_false
      intro w
      apply e
      rcases Nat.lt_trichotomy (fst T k) r with q | q | q
      · exfalso
        have h1 : mt T k (fst T k) = true := fa_first_yes (mt T k) (tr T) (by have : fa_first (mt T k) (tr T) < r := q; omega)
        have h2 : (bts T k % 2 ^ r).testBit (fst T k) = false := by rw [w, Nat.zero_testBit]
        rw [Nat.testBit_mod_two_pow, tb_bts, h1, decide_eq_true q, decide_eq_true (by omega)] at h2
        exact absurd h2 (by decide)
      · exact q
      · exfalso
        have h1 := fa_first_no (mt T k) (tr T) r q
        rw [h1] at b
        exact absurd b (by decide)
    · rw [Bool.not_eq_true] at b
      rw [b, Bool.false_and]
def dcF (T : Tb) : Nat → Nat
  | 0 => 0
  | k + 1 => dcF T k ||| lbt (bts T k)
theorem dc_bit (hT : TOk T) {r : Nat} (hr : r < tr T) : ∀ i, (dcF T i).testBit r = decide (fa_first (fun k => decide (fst T k = r)) i < i)
  | 0 => by simp [dcF]
  | i + 1 => by
    have hle := fa_first_le (fun k => decide (fst T k = r)) i
    rw [dcF, Nat.testBit_or, dc_bit hT hr i, lb_fst hT i hr, fa_first]
    by_cases q : fa_first (fun k => decide (fst T k = r)) i < i
    · rw [if_pos q, decide_eq_true q, decide_eq_true (by omega : fa_first (fun k => decide (fst T k = r)) i < i + 1), Bool.true_or]
    · rw [if_neg q, decide_eq_false q, Bool.false_or]
      by_cases e : fst T i = r
      · rw [decide_eq_true e, if_pos rfl, decide_eq_true (Nat.lt_succ_self i)]
      · rw [decide_eq_false e, if_neg (by decide), decide_eq_false (Nat.lt_irrefl _)]
/-- no case is decided by rule r -/
def cov (T : Tb) (r : Nat) : Bool := decide (¬ fa_first (fun k => decide (fst T k = r)) (cas T) < cas T)
theorem x_dec (hT : TOk T) (hX : XT T tc tca tru tdf tsi tst tco twe tse tac trw) : f_X4_deciding tc tca tru tsi tst trw = some (nI (dcF T (cas T))) := by
  have hc := cas_le hT
  unfold f_X4_deciding
  refine wl_for (fun k => (nI (dcF T k), nI k)) (cas T) (fun k hk => ?_) ?_ (by omega)
  · show f_X4_deciding_s4 tc tca tru tsi tst trw (nI (dcF T k)) (nI k) = _
    unfold f_X4_deciding_s4
    rw [hX.ca, if_neg (nI_ge hk (by omega)), x_rulesFor hT hX (by omega), bd_go, nm_go, lb_i _ (bts_lt hT k), fa_or, nI_1]
    rfl
  · show f_X4_deciding_s4 tc tca tru tsi tst trw (nI (dcF T (cas T))) (nI (cas T)) = _
    unfold f_X4_deciding_s4
    rw [hX.ca, if_pos (Int32.le_refl _)]
theorem x_covb (hT : TOk T) {r : Nat} (hr : r < tr T) : ((nI (dcF T (cas T)) >>> (nI r &&& 31)) &&& (1 : Int32)) = (0 : Int32) ↔ cov T r = true := by
  have h12 := hT.r12
  rw [sh_bit (by omega), dc_bit hT hr]
  unfold cov
  by_cases q : fa_first (fun k => decide (fst T k = r)) (cas T) < cas T
  · rw [decide_eq_true q, decide_eq_false (fun w => w q)]
    exact ⟨fun w => absurd w (by decide), fun w => absurd w (by decide)⟩
  · rw [decide_eq_false q, decide_eq_true q]
    exact ⟨fun _ => rfl, fun _ => rfl⟩
theorem m_cov (hT : TOk T) (hM : MT T mc mru mst msi mwe mco mse mac) {r : Nat} (hr : r < tr T) : f_X7_isCovered mc msi mru mse (nI r) = some (cov T r) := by
  have hc := cas_le hT
  have h12 := hT.r12
  have e : ∀ k, ((if fst T k < tr T then nI (fst T k) else (-6 : Int32)) = nI r) ↔ fst T k = r := by
    intro k
    by_cases q : fst T k < tr T
    · rw [if_pos q, nI_eq (by omega) (by omega)]
    · rw [if_neg q]
      exact ⟨fun w => absurd w.symm (nI_m6 (by omega)), fun w => by omega⟩
  unfold f_X7_isCovered
  rw [m_cases hT hM, bd_go]
  refine Eq.trans (wl_find (fun k => decide (fst T k = r)) (cas T) (by omega) (fun _ => false) true (fun k hk hp => ?_) (fun k hk hp => ?_) ?_) ?_
  · show f_X7_isCovered_s7 mc msi mru mse (nI r) (nI (cas T)) (nI k) = _
    unfold f_X7_isCovered_s7
    rw [if_neg (nI_ge hk (by omega)), m_first hT hM (by omega), bd_go, if_neg (fun w => of_decide_eq_false hp ((e k).mp w)), nI_1]
  · show f_X7_isCovered_s7 mc msi mru mse (nI r) (nI (cas T)) (nI k) = _
    unfold f_X7_isCovered_s7
    rw [if_neg (nI_ge hk (by omega)), m_first hT hM (by omega), bd_go, if_pos ((e k).mpr (of_decide_eq_true hp))]
  · show f_X7_isCovered_s7 mc msi mru mse (nI r) (nI (cas T)) (nI (cas T)) = _
    unfold f_X7_isCovered_s7
    rw [if_pos (Int32.le_refl _)]
  · unfold cov
    by_cases q : fa_first (fun k => decide (fst T k = r)) (cas T) < cas T
    · rw [if_pos q, decide_eq_false (fun w => w q)]
    · rw [if_neg q, decide_eq_true q]
theorem eq_isShadowed (hT : TOk T) (hX : XT T tc tca tru tdf tsi tst tco twe tse tac trw) (hM : MT T mc mru mst msi mwe mco mse mac) (a : Int32) : ∃ r, f_X6_isShadowed tc tca tru tsi tst trw a = some r ∧ f_X7_isShadowed mc msi mru mse a = some r := by
  have h12 := hT.r12
  unfold f_X6_isShadowed f_X7_isShadowed
  rw [hX.r, x_hasR, bd_go, m_isRule hT hM, bd_go]
  cases h1 : hasb (tr T) a with
  | false => exact ⟨_, rfl, rfl⟩
  | true =>
    obtain ⟨r, hr, rfl⟩ := hb_t (by omega) h1
    rw [if_pos rfl, if_pos rfl, ← hX.r, x_dec hT hX, bd_go, m_cov hT hM hr, bd_go]
    by_cases q : cov T r = true
    · rw [if_pos ((x_covb hT hr).mpr q), if_pos q]
      exact ⟨_, rfl, rfl⟩
    · rw [if_neg (fun w => q ((x_covb hT hr).mp w)), if_neg q]
      exact ⟨_, rfl, rfl⟩
/-! samples -/
theorem u16_e (x : Int32) : ∃ q, q < 65536 ∧ ((x.toUInt32 >>> ((16 : Int32).toUInt32 &&& Int32.toUInt32 31)).toInt32) = nI q := by
  obtain ⟨n, hn, rfl⟩ := wb_of32 x
  refine ⟨n / 2 ^ 16, by omega, ?_⟩
  apply b_ext
  intro i hi
  rw [show (16 : Int32) = nI 16 from rfl, b_ushr 16 (by decide), bt_nI _ hi, Nat.testBit_div_two_pow]
  by_cases q : 16 + i < 32
  · rw [bt_nI _ q, Nat.add_comm]
  · rw [b_big (by omega), Nat.testBit_lt_two_pow (Nat.lt_of_lt_of_le hn (Nat.pow_le_pow_right (by decide) (by omega)))]
def smw (T : Tb) (c : Nat) (v : Nat) : Nat := fb_sm (fun v => tw T (c * 5 + v)) v
def pck (T : Tb) (c q : Nat) : Nat := fa_first (fun v => decide (q < smw T c (v + 1))) (tz T c)
theorem pck_lt (hT : TOk T) {c q : Nat} (hc : c < tn T) (hq : q < wsm T c) : pck T c q < tz T c := by
  have hle := fa_first_le (fun v => decide (q < smw T c (v + 1))) (tz T c)
  have hz := hT.z2 hc
  rcases Nat.lt_or_ge (pck T c q) (tz T c) with h | h
  · exact h
  · exfalso
    have h1 := fa_first_no (fun v => decide (q < smw T c (v + 1))) (tz T c) (tz T c - 1) (by have : tz T c ≤ fa_first (fun v => decide (q < smw T c (v + 1))) (tz T c) := h; omega)
    have h2 := of_decide_eq_false h1
    rw [show tz T c - 1 + 1 = tz T c by omega] at h2
    exact h2 hq
theorem x_pick (hT : TOk T) (hX : XT T tc tca tru tdf tsi tst tco twe tse tac trw) {c q : Nat} (hc : c < tn T) (hq : q < wsm T c) : f_X4_valueAt tsi twe (nI c) (nI q) = some (nI (pck T c q)) := by
  have h4 := hT.n4
  have hz := hT.z5 c
  have hp := pck_lt hT hc hq
  have hw := wsm_le hT c (tz T c) hz
  have hq2 : q < 45 := Nat.lt_of_lt_of_le hq hw
  unfold f_X4_valueAt
  refine Eq.trans (wl_findS (fun v => (nI (smw T c v), nI v)) (fun v => decide (q < smw T c (v + 1))) (tz T c) (by omega) (fun v => nI v) 0 (fun v hv hp => ?_) (fun v hv _ hp => ?_) (fun _ => ?_)) (if_pos hp ▸ rfl)
  · show f_X4_valueAt_s5 tsi twe (nI c) (nI q) (nI (smw T c v)) (nI v) = _
    have hp := of_decide_eq_false (hp v (by omega))
    have hsl := wsm_le hT c (v + 1) (by omega)
    have e : smw T c (v + 1) = smw T c v + tw T (c * 5 + v) := rfl
    unfold f_X4_valueAt_s5
    rw [rd_nI (by omega) (by decide), hX.z (by omega), if_neg (nI_ge hv (by omega)), show (5 : Int32) = nI 5 from rfl, pk_mul, nI_add, rd_nI (by omega) (by decide), hX.w (by omega), nI_add, ← e, if_pos (nI_le (by omega) (by omega)), nI_1]
  · show f_X4_valueAt_s5 tsi twe (nI c) (nI q) (nI (smw T c v)) (nI v) = _
    have hp := of_decide_eq_true hp
    have hsl : smw T c (v + 1) ≤ 45 := wsm_le hT c (v + 1) (by omega)
    have e : smw T c (v + 1) = smw T c v + tw T (c * 5 + v) := rfl
    unfold f_X4_valueAt_s5
    rw [rd_nI (by omega) (by decide), hX.z (by omega), if_neg (nI_ge hv (by omega)), show (5 : Int32) = nI 5 from rfl, pk_mul, nI_add, rd_nI (by omega) (by decide), hX.w (by omega), nI_add, ← e, if_neg (nI_ge hp (by omega))]
  · show f_X4_valueAt_s5 tsi twe (nI c) (nI q) (nI (smw T c (tz T c))) (nI (tz T c)) = _
    unfold f_X4_valueAt_s5
    rw [rd_nI (by omega) (by decide), hX.z (by omega), if_pos (Int32.le_refl _)]
theorem m_pick (hT : TOk T) (hM : MT T mc mru mst msi mwe mco mse mac) {c q : Nat} (hc : c < tn T) (hq : q < wsm T c) (A : Nat) (z : Int32) : wl (fun p => f_X7_sample_s81 msi mwe (nI A) (nI c) z p.1 p.2) 5000 (nI q, (0 : Int32)) = some (.inl (z, nI (A * tz T c + pck T c q), nI (c + 1))) := by
  have h4 := hT.n4
  have hz := hT.z5 c
  have hp := pck_lt hT hc hq
  have hw := wsm_le hT c (tz T c) hz
  have hq2 : q < 45 := Nat.lt_of_lt_of_le hq hw
  have e0 : ∀ v, (∀ j, j < v → decide (q < smw T c (j + 1)) = false) → smw T c v ≤ q := by
    intro v h
    cases v with
    | zero => exact Nat.zero_le _
    | succ v => have := of_decide_eq_false (h v (by omega)); omega
  rw [show (nI q, (0 : Int32)) = (fun v => (nI (q - smw T c v), nI v)) 0 from rfl]
  refine Eq.trans (wl_findS (fun v => (nI (q - smw T c v), nI v)) (fun v => decide (q < smw T c (v + 1))) (tz T c) (by omega) (fun v => .inl (z, nI (A * tz T c + v), nI (c + 1))) (.inr (.inr 0)) (fun v hv hb => ?_) (fun v hv hb hp => ?_) (fun hb => ?_)) (if_pos hp ▸ rfl)
  · show f_X7_sample_s81 msi mwe (nI A) (nI c) z (nI (q - smw T c v)) (nI v) = _
    have h1 := e0 v (fun j hj => hb j (by omega))
    have hp := of_decide_eq_false (hb v (by omega))
    have e : smw T c (v + 1) = smw T c v + tw T (c * 5 + v) := rfl
    unfold f_X7_sample_s81
    rw [show (5 : Int32) = nI 5 from rfl, pk_mul, nI_add, rd_nI (by omega) (by decide), show 5 * c + v = c * 5 + v by omega, hM.w (by omega), if_neg (nI_nlt (by omega) (by omega)), pk_sub (by omega), nI_1, show q - smw T c v - tw T (c * 5 + v) = q - smw T c (v + 1) by omega]
  · show f_X7_sample_s81 msi mwe (nI A) (nI c) z (nI (q - smw T c v)) (nI v) = _
    have h1 := e0 v hb
    have hp := of_decide_eq_true hp
    have hw9 := hT.w9 (c * 5 + v)
    have e : smw T c (v + 1) = smw T c v + tw T (c * 5 + v) := rfl
    unfold f_X7_sample_s81
    rw [show (5 : Int32) = nI 5 from rfl, pk_mul, nI_add, rd_nI (by omega) (by decide), show 5 * c + v = c * 5 + v by omega, hM.w (by omega), if_pos (nI_lt (by omega) (by omega)), rd_nI (by omega) (by decide), hM.z (by omega), nm_go, pk_mul, nI_add, nI_1]
  · exfalso
    have h1 := e0 (tz T c) hb
    have h2 : q < smw T c (tz T c) := hq
    omega
def lcg (x : Int32) : Int32 := (x * (1103515245 : Int32)) + (12345 : Int32)
def itx (x : Int32) : Nat → Int32
  | 0 => x
  | c + 1 => lcg (itx x c)
noncomputable def u16 (x : Int32) : Nat := (u16_e x).choose
theorem u16_s (x : Int32) : ((x.toUInt32 >>> ((16 : Int32).toUInt32 &&& Int32.toUInt32 31)).toInt32) = nI (u16 x) := (u16_e x).choose_spec.2
theorem u16_lt (x : Int32) : u16 x < 65536 := (u16_e x).choose_spec.1
noncomputable def drw (T : Tb) (x : Int32) (c : Nat) : Nat := pck T c (u16 (itx x (c + 1)) % wsm T c)
noncomputable def dnum (T : Tb) (x : Int32) : Nat := hor T (drw T x) (tn T)
noncomputable def xdr (T : Tb) (x : Int32) : Nat → Int32
  | 0 => x
  | d + 1 => itx (xdr T x d) (tn T)
noncomputable def hit (T : Tb) (x a : Int32) : Nat → Nat
  | 0 => 0
  | d + 1 => hit T x a d + (if dI (actc T (dnum T (xdr T x d))) = a then 1 else 0)
theorem drw_lt (hT : TOk T) (x : Int32) {c : Nat} (hc : c < tn T) : drw T x c < tz T c := pck_lt hT hc (Nat.mod_lt _ (hT.ws0 hc))
theorem dnum_lt (hT : TOk T) (x : Int32) : dnum T x < 625 := Nat.lt_of_lt_of_le (hor_cas (fun _ hc => drw_lt hT x hc)) (cas_le hT)
theorem x_draw (hT : TOk T) (hX : XT T tc tca tru tdf tsi tst tco twe tse tac trw) (x a : Int32) (h d : Nat) : wl (fun q => f_X6_sample_s41 tc tru tdf tsi tst twe tac trw a (nI h) (nI d) q.1 q.2.1 q.2.2) 5000 (x, (0 : Int32), (0 : Int32)) = some (.inl (itx x (tn T), nI (h + if dI (actc T (dnum T x)) = a then 1 else 0), nI (d + 1))) := by
  have h4 := hT.n4
  refine wl_for (fun c => (itx x c, nI (fb_sm (fun c => drw T x c * str T c) c), nI c)) (tn T) (fun c hc => ?_) ?_ (by omega)
  · show f_X6_sample_s41 tc tru tdf tsi tst twe tac trw a (nI h) (nI d) (itx x c) (nI _) (nI c) = _
    have hz := hT.z5 c
    have hw : wsm T c ≤ 45 := wsm_le hT c (tz T c) hz
    have hu := u16_lt (itx x (c + 1))
    have hw0 := hT.ws0 hc
    unfold f_X6_sample_s41
    rw [hX.n, if_neg (nI_ge hc (by omega)), nm_go, x_weightSum hT hX hc, bd_go]
    rw [show ((itx x c * (1103515245 : Int32)) + (12345 : Int32)) = itx x (c + 1) from rfl, u16_s, x_rem (by omega) hw0 (by omega), bd_go, x_pick hT hX hc (Nat.mod_lt _ hw0), bd_go, rd_nI (by omega) (by decide), hX.st hc, pk_mul, nI_add, nI_1]
    rfl
  · show f_X6_sample_s41 tc tru tdf tsi tst twe tac trw a (nI h) (nI d) (itx x (tn T)) (nI _) (nI (tn T)) = _
    have hd := dnum_lt hT x
    unfold f_X6_sample_s41
    rw [hX.n, if_pos (Int32.le_refl _), ← hX.n, hor_all, show hor T (fun c => drw T x c) (tn T) = dnum T x from rfl, x_action hT hX (by omega), bd_go]
    by_cases q : dI (actc T (dnum T x)) = a
    · rw [if_pos q, if_pos q, nI_1, nI_1]
    · rw [if_neg q, if_neg q, nI_1]; rfl
theorem m_draw (hT : TOk T) (hM : MT T mc mru mst msi mwe mco mse mac) (x a : Int32) (h d : Nat) : wl (fun q => f_X7_sample_s44 mc msi mwe mru mse mac mst a (nI h) (nI d) q.1 q.2.1 q.2.2) 5000 (x, (0 : Int32), (0 : Int32)) = some (.inl (itx x (tn T), nI (h + if dI (actc T (dnum T x)) = a then 1 else 0), nI (d + 1))) := by
  have h4 := hT.n4
  refine wl_for (fun c => (itx x c, nI (hor T (drw T x) c), nI c)) (tn T) (fun c hc => ?_) ?_ (by omega)
  · show f_X7_sample_s44 mc msi mwe mru mse mac mst a (nI h) (nI d) (itx x c) (nI _) (nI c) = _
    have hz := hT.z5 c
    have hw : wsm T c ≤ 45 := wsm_le hT c (tz T c) hz
    have hu := u16_lt (itx x (c + 1))
    have hw0 := hT.ws0 hc
    unfold f_X7_sample_s44
    rw [hM.n, if_neg (nI_ge hc (by omega)), nm_go, m_weightSum hT hM hc, bd_go, nz_go (nI_ne0 hw0 (by omega)), nm_go]
    rw [show ((itx x c * (1103515245 : Int32)) + (12345 : Int32)) = itx x (c + 1) from rfl, u16_s, pk_rem (by omega) hw0 (by omega), m_pick hT hM hc (Nat.mod_lt _ hw0)]
    rfl
  · show f_X7_sample_s44 mc msi mwe mru mse mac mst a (nI h) (nI d) (itx x (tn T)) (nI _) (nI (tn T)) = _
    have hd := dnum_lt hT x
    unfold f_X7_sample_s44
    rw [hM.n, if_pos (Int32.le_refl _), ← hM.n, show hor T (drw T x) (tn T) = dnum T x from rfl, m_action hT hM (by omega), bd_go]
    by_cases q : dI (actc T (dnum T x)) = a
    · rw [if_pos q, if_pos q, nI_1, nI_1]
    · rw [if_neg q, if_neg q, nI_1, show (0 : Int32) = nI 0 from rfl, nI_add]
theorem x_isAct (x : Int32) : f_X6_isActionOrNone x = some (inb x (-1) 9) := by
  unfold f_X6_isActionOrNone inb
  by_cases q : x < -1
  · rw [if_pos q, decide_eq_false (fun w => w.1 q)]
  · rw [if_neg q]
    by_cases q2 : 9 < x
    · rw [if_pos q2, decide_eq_false (fun w => w.2 q2)]
    · rw [if_neg q2, decide_eq_true ⟨q, q2⟩]
theorem eq_sample (hT : TOk T) (hX : XT T tc tca tru tdf tsi tst tco twe tse tac trw) (hM : MT T mc mru mst msi mwe mco mse mac) (x1 x2 x3 : Int32) : ∃ r, f_X6_sample tc tru tdf tsi tst twe tac trw x1 x2 x3 = some r ∧ f_X7_sample mc msi mwe mru mse mac mst x1 x2 x3 = some r := by
  unfold f_X6_sample f_X7_sample
  rw [m_in, bd_go]
  by_cases c1 : x2 < 0
  · rw [if_pos c1, if_neg (fun w => (inb_t w).1 c1)]
    exact ⟨_, rfl, rfl⟩
  · rw [if_neg c1]
    by_cases c2 : 500 < x2
    · rw [if_pos c2, if_neg (fun w => (inb_t w).2 c2)]
      exact ⟨_, rfl, rfl⟩
    · rw [if_neg c2]
      have hi : inb x2 0 500 = true := decide_eq_true ⟨c1, c2⟩
      obtain ⟨n, -, hn, rfl⟩ := inb_nI (a := 0) (b := 500) (by decide) hi (by decide)
      rw [if_pos hi, x_isAct, bd_go, m_in, bd_go]
      cases inb x3 (-1) 9 with
      | false => exact ⟨_, rfl, rfl⟩
      | true =>
        rw [if_pos rfl, if_pos rfl]
        refine ⟨nI (hit T x1 x3 n), wl_for (fun d => (xdr T x1 d, nI (hit T x1 x3 d), nI d)) n (fun d hd => ?_) ?_ (by omega), wl_for (fun d => (xdr T x1 d, nI (hit T x1 x3 d), nI d)) n (fun d hd => ?_) ?_ (by omega)⟩
        · show f_X6_sample_s29 tc tru tdf tsi tst twe tac trw (nI n) x3 (xdr T x1 d) (nI (hit T x1 x3 d)) (nI d) = _
          unfold f_X6_sample_s29
          rw [if_neg (nI_ge hd (by omega)), x_draw hT hX]
          rfl
        · show f_X6_sample_s29 tc tru tdf tsi tst twe tac trw (nI n) x3 (xdr T x1 n) (nI (hit T x1 x3 n)) (nI n) = _
          unfold f_X6_sample_s29
          rw [if_pos (Int32.le_refl _)]
        · show f_X7_sample_s32 mc msi mwe mru mse mac mst (nI n) x3 (xdr T x1 d) (nI (hit T x1 x3 d)) (nI d) = _
          unfold f_X7_sample_s32
          rw [if_neg (nI_ge hd (by omega)), m_draw hT hM]
          rfl
        · show f_X7_sample_s32 mc msi mwe mru mse mac mst (nI n) x3 (xdr T x1 n) (nI (hit T x1 x3 n)) (nI n) = _
          unfold f_X7_sample_s32
          rw [if_pos (Int32.le_refl _)]
end B
